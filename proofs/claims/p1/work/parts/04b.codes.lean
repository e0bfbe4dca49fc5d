/-! the code of every method is among the words -/
set_option maxRecDepth 100000 in
theorem zc1 : Cond.code (zY 1) (zCode 1) (zML 1) (zRT 1) ∈ zTbl := z_t (i := 15) rfl rfl
set_option maxRecDepth 100000 in
theorem zc2 : Cond.code (zY 2) (zCode 2) (zML 2) (zRT 2) ∈ zTbl := z_t (i := 23) rfl rfl
set_option maxRecDepth 100000 in
theorem zc3 : Cond.code (zY 3) (zCode 3) (zML 3) (zRT 3) ∈ zTbl := z_t (i := 38) rfl rfl
set_option maxRecDepth 100000 in
theorem zc4 : Cond.code (zY 4) (zCode 4) (zML 4) (zRT 4) ∈ zTbl := z_t (i := 44) rfl rfl
set_option maxRecDepth 100000 in
theorem zc5 : Cond.code (zY 5) (zCode 5) (zML 5) (zRT 5) ∈ zTbl := z_t (i := 75) rfl rfl
set_option maxRecDepth 100000 in
theorem zc6 : Cond.code (zY 6) (zCode 6) (zML 6) (zRT 6) ∈ zTbl := z_t (i := 143) rfl rfl
set_option maxRecDepth 100000 in
theorem zc7 : Cond.code (zY 7) (zCode 7) (zML 7) (zRT 7) ∈ zTbl := z_t (i := 147) rfl rfl
set_option maxRecDepth 100000 in
theorem zc8 : Cond.code (zY 8) (zCode 8) (zML 8) (zRT 8) ∈ zTbl := z_t (i := 151) rfl rfl
set_option maxRecDepth 100000 in
theorem zc9 : Cond.code (zY 9) (zCode 9) (zML 9) (zRT 9) ∈ zTbl := z_t (i := 209) rfl rfl
set_option maxRecDepth 100000 in
theorem zc10 : Cond.code (zY 10) (zCode 10) (zML 10) (zRT 10) ∈ zTbl := z_t (i := 213) rfl rfl
set_option maxRecDepth 100000 in
theorem zc11 : Cond.code (zY 11) (zCode 11) (zML 11) (zRT 11) ∈ zTbl := z_t (i := 217) rfl rfl
set_option maxRecDepth 100000 in
theorem zc12 : Cond.code (zY 12) (zCode 12) (zML 12) (zRT 12) ∈ zTbl := z_t (i := 221) rfl rfl
set_option maxRecDepth 100000 in
theorem zc13 : Cond.code (zY 13) (zCode 13) (zML 13) (zRT 13) ∈ zTbl := z_t (i := 225) rfl rfl
set_option maxRecDepth 100000 in
theorem zc14 : Cond.code (zY 14) (zCode 14) (zML 14) (zRT 14) ∈ zTbl := z_t (i := 229) rfl rfl
set_option maxRecDepth 100000 in
theorem zc15 : Cond.code (zY 15) (zCode 15) (zML 15) (zRT 15) ∈ zTbl := z_t (i := 233) rfl rfl
set_option maxRecDepth 100000 in
theorem zc16 : Cond.code (zY 16) (zCode 16) (zML 16) (zRT 16) ∈ zTbl := z_t (i := 236) rfl rfl
set_option maxRecDepth 100000 in
theorem zc17 : Cond.code (zY 17) (zCode 17) (zML 17) (zRT 17) ∈ zTbl := z_t (i := 240) rfl rfl
set_option maxRecDepth 100000 in
theorem zc18 : Cond.code (zY 18) (zCode 18) (zML 18) (zRT 18) ∈ zTbl := z_t (i := 244) rfl rfl
set_option maxRecDepth 100000 in
theorem zc19 : Cond.code (zY 19) (zCode 19) (zML 19) (zRT 19) ∈ zTbl := z_t (i := 248) rfl rfl
set_option maxRecDepth 100000 in
theorem zc20 : Cond.code (zY 20) (zCode 20) (zML 20) (zRT 20) ∈ zTbl := z_t (i := 255) rfl rfl
set_option maxRecDepth 100000 in
theorem zc21 : Cond.code (zY 21) (zCode 21) (zML 21) (zRT 21) ∈ zTbl := z_t (i := 258) rfl rfl
set_option maxRecDepth 100000 in
theorem zc22 : Cond.code (zY 22) (zCode 22) (zML 22) (zRT 22) ∈ zTbl := z_t (i := 262) rfl rfl
set_option maxRecDepth 100000 in
theorem zc23 : Cond.code (zY 23) (zCode 23) (zML 23) (zRT 23) ∈ zTbl := z_t (i := 269) rfl rfl
set_option maxRecDepth 100000 in
theorem zc24 : Cond.code (zY 24) (zCode 24) (zML 24) (zRT 24) ∈ zTbl := z_t (i := 273) rfl rfl
set_option maxRecDepth 100000 in
theorem zc25 : Cond.code (zY 25) (zCode 25) (zML 25) (zRT 25) ∈ zTbl := z_t (i := 276) rfl rfl
set_option maxRecDepth 100000 in
theorem zc26 : Cond.code (zY 26) (zCode 26) (zML 26) (zRT 26) ∈ zTbl := z_t (i := 280) rfl rfl
set_option maxRecDepth 100000 in
theorem zc27 : Cond.code (zY 27) (zCode 27) (zML 27) (zRT 27) ∈ zTbl := z_t (i := 284) rfl rfl
set_option maxRecDepth 100000 in
theorem zc28 : Cond.code (zY 28) (zCode 28) (zML 28) (zRT 28) ∈ zTbl := z_t (i := 288) rfl rfl
set_option maxRecDepth 100000 in
theorem zc29 : Cond.code (zY 29) (zCode 29) (zML 29) (zRT 29) ∈ zTbl := z_t (i := 345) rfl rfl
set_option maxRecDepth 100000 in
theorem zc30 : Cond.code (zY 30) (zCode 30) (zML 30) (zRT 30) ∈ zTbl := z_t (i := 349) rfl rfl
set_option maxRecDepth 100000 in
theorem zc31 : Cond.code (zY 31) (zCode 31) (zML 31) (zRT 31) ∈ zTbl := z_t (i := 353) rfl rfl
set_option maxRecDepth 100000 in
theorem zc32 : Cond.code (zY 32) (zCode 32) (zML 32) (zRT 32) ∈ zTbl := z_t (i := 357) rfl rfl
set_option maxRecDepth 100000 in
theorem zc33 : Cond.code (zY 33) (zCode 33) (zML 33) (zRT 33) ∈ zTbl := z_t (i := 361) rfl rfl
set_option maxRecDepth 100000 in
theorem zc34 : Cond.code (zY 34) (zCode 34) (zML 34) (zRT 34) ∈ zTbl := z_t (i := 364) rfl rfl
set_option maxRecDepth 100000 in
theorem zc35 : Cond.code (zY 35) (zCode 35) (zML 35) (zRT 35) ∈ zTbl := z_t (i := 368) rfl rfl
set_option maxRecDepth 100000 in
theorem zc36 : Cond.code (zY 36) (zCode 36) (zML 36) (zRT 36) ∈ zTbl := z_t (i := 372) rfl rfl
set_option maxRecDepth 100000 in
theorem zc37 : Cond.code (zY 37) (zCode 37) (zML 37) (zRT 37) ∈ zTbl := z_t (i := 376) rfl rfl
set_option maxRecDepth 100000 in
theorem zc38 : Cond.code (zY 38) (zCode 38) (zML 38) (zRT 38) ∈ zTbl := z_t (i := 380) rfl rfl
set_option maxRecDepth 100000 in
theorem zc39 : Cond.code (zY 39) (zCode 39) (zML 39) (zRT 39) ∈ zTbl := z_t (i := 384) rfl rfl
set_option maxRecDepth 100000 in
theorem zc40 : Cond.code (zY 40) (zCode 40) (zML 40) (zRT 40) ∈ zTbl := z_t (i := 388) rfl rfl
set_option maxRecDepth 100000 in
theorem zc41 : Cond.code (zY 41) (zCode 41) (zML 41) (zRT 41) ∈ zTbl := z_t (i := 391) rfl rfl
set_option maxRecDepth 100000 in
theorem zc42 : Cond.code (zY 42) (zCode 42) (zML 42) (zRT 42) ∈ zTbl := z_t (i := 395) rfl rfl
set_option maxRecDepth 100000 in
theorem zc43 : Cond.code (zY 43) (zCode 43) (zML 43) (zRT 43) ∈ zTbl := z_t (i := 400) rfl rfl
set_option maxRecDepth 100000 in
theorem zc44 : Cond.code (zY 44) (zCode 44) (zML 44) (zRT 44) ∈ zTbl := z_t (i := 404) rfl rfl
set_option maxRecDepth 100000 in
theorem zc45 : Cond.code (zY 45) (zCode 45) (zML 45) (zRT 45) ∈ zTbl := z_t (i := 407) rfl rfl
set_option maxRecDepth 100000 in
theorem zc46 : Cond.code (zY 46) (zCode 46) (zML 46) (zRT 46) ∈ zTbl := z_t (i := 411) rfl rfl
set_option maxRecDepth 100000 in
theorem zc47 : Cond.code (zY 47) (zCode 47) (zML 47) (zRT 47) ∈ zTbl := z_t (i := 415) rfl rfl
set_option maxRecDepth 100000 in
theorem zc48 : Cond.code (zY 48) (zCode 48) (zML 48) (zRT 48) ∈ zTbl := z_t (i := 419) rfl rfl
set_option maxRecDepth 100000 in
theorem zc49 : Cond.code (zY 49) (zCode 49) (zML 49) (zRT 49) ∈ zTbl := z_t (i := 423) rfl rfl
set_option maxRecDepth 100000 in
theorem zc50 : Cond.code (zY 50) (zCode 50) (zML 50) (zRT 50) ∈ zTbl := z_t (i := 428) rfl rfl
set_option maxRecDepth 100000 in
theorem zc51 : Cond.code (zY 51) (zCode 51) (zML 51) (zRT 51) ∈ zTbl := z_t (i := 432) rfl rfl
set_option maxRecDepth 100000 in
theorem zc52 : Cond.code (zY 52) (zCode 52) (zML 52) (zRT 52) ∈ zTbl := z_t (i := 437) rfl rfl
set_option maxRecDepth 100000 in
theorem zc53 : Cond.code (zY 53) (zCode 53) (zML 53) (zRT 53) ∈ zTbl := z_t (i := 441) rfl rfl
set_option maxRecDepth 100000 in
theorem zc54 : Cond.code (zY 54) (zCode 54) (zML 54) (zRT 54) ∈ zTbl := z_t (i := 445) rfl rfl
set_option maxRecDepth 100000 in
theorem zc55 : Cond.code (zY 55) (zCode 55) (zML 55) (zRT 55) ∈ zTbl := z_t (i := 449) rfl rfl
set_option maxRecDepth 100000 in
theorem zc56 : Cond.code (zY 56) (zCode 56) (zML 56) (zRT 56) ∈ zTbl := z_t (i := 454) rfl rfl
set_option maxRecDepth 100000 in
theorem zc57 : Cond.code (zY 57) (zCode 57) (zML 57) (zRT 57) ∈ zTbl := z_t (i := 458) rfl rfl
set_option maxRecDepth 100000 in
theorem zc58 : Cond.code (zY 58) (zCode 58) (zML 58) (zRT 58) ∈ zTbl := z_t (i := 462) rfl rfl
set_option maxRecDepth 100000 in
theorem zc59 : Cond.code (zY 59) (zCode 59) (zML 59) (zRT 59) ∈ zTbl := z_t (i := 466) rfl rfl
set_option maxRecDepth 100000 in
theorem zc60 : Cond.code (zY 60) (zCode 60) (zML 60) (zRT 60) ∈ zTbl := z_t (i := 470) rfl rfl
set_option maxRecDepth 100000 in
theorem zc61 : Cond.code (zY 61) (zCode 61) (zML 61) (zRT 61) ∈ zTbl := z_t (i := 474) rfl rfl
set_option maxRecDepth 100000 in
theorem zc62 : Cond.code (zY 62) (zCode 62) (zML 62) (zRT 62) ∈ zTbl := z_t (i := 478) rfl rfl
set_option maxRecDepth 100000 in
theorem zc63 : Cond.code (zY 63) (zCode 63) (zML 63) (zRT 63) ∈ zTbl := z_t (i := 482) rfl rfl
set_option maxRecDepth 100000 in
theorem zc64 : Cond.code (zY 64) (zCode 64) (zML 64) (zRT 64) ∈ zTbl := z_t (i := 486) rfl rfl
set_option maxRecDepth 100000 in
theorem zc65 : Cond.code (zY 65) (zCode 65) (zML 65) (zRT 65) ∈ zTbl := z_t (i := 490) rfl rfl
set_option maxRecDepth 100000 in
theorem zc66 : Cond.code (zY 66) (zCode 66) (zML 66) (zRT 66) ∈ zTbl := z_t (i := 494) rfl rfl
set_option maxRecDepth 100000 in
theorem zc67 : Cond.code (zY 67) (zCode 67) (zML 67) (zRT 67) ∈ zTbl := z_t (i := 498) rfl rfl
set_option maxRecDepth 100000 in
theorem zc68 : Cond.code (zY 68) (zCode 68) (zML 68) (zRT 68) ∈ zTbl := z_t (i := 502) rfl rfl
set_option maxRecDepth 100000 in
theorem zc69 : Cond.code (zY 69) (zCode 69) (zML 69) (zRT 69) ∈ zTbl := z_t (i := 508) rfl rfl
set_option maxRecDepth 100000 in
theorem zc70 : Cond.code (zY 70) (zCode 70) (zML 70) (zRT 70) ∈ zTbl := z_t (i := 628) rfl rfl
set_option maxRecDepth 100000 in
theorem zc71 : Cond.code (zY 71) (zCode 71) (zML 71) (zRT 71) ∈ zTbl := z_t (i := 633) rfl rfl
set_option maxRecDepth 100000 in
theorem zc72 : Cond.code (zY 72) (zCode 72) (zML 72) (zRT 72) ∈ zTbl := z_t (i := 637) rfl rfl
set_option maxRecDepth 100000 in
theorem zc73 : Cond.code (zY 73) (zCode 73) (zML 73) (zRT 73) ∈ zTbl := z_t (i := 641) rfl rfl
set_option maxRecDepth 100000 in
theorem zc74 : Cond.code (zY 74) (zCode 74) (zML 74) (zRT 74) ∈ zTbl := z_t (i := 645) rfl rfl
set_option maxRecDepth 100000 in
theorem zc75 : Cond.code (zY 75) (zCode 75) (zML 75) (zRT 75) ∈ zTbl := z_t (i := 649) rfl rfl
set_option maxRecDepth 100000 in
theorem zc76 : Cond.code (zY 76) (zCode 76) (zML 76) (zRT 76) ∈ zTbl := z_t (i := 652) rfl rfl
set_option maxRecDepth 100000 in
theorem zc77 : Cond.code (zY 77) (zCode 77) (zML 77) (zRT 77) ∈ zTbl := z_t (i := 656) rfl rfl
set_option maxRecDepth 100000 in
theorem zc78 : Cond.code (zY 78) (zCode 78) (zML 78) (zRT 78) ∈ zTbl := z_t (i := 660) rfl rfl
set_option maxRecDepth 100000 in
theorem zc79 : Cond.code (zY 79) (zCode 79) (zML 79) (zRT 79) ∈ zTbl := z_t (i := 664) rfl rfl
set_option maxRecDepth 100000 in
theorem zc80 : Cond.code (zY 80) (zCode 80) (zML 80) (zRT 80) ∈ zTbl := z_t (i := 668) rfl rfl
set_option maxRecDepth 100000 in
theorem zc81 : Cond.code (zY 81) (zCode 81) (zML 81) (zRT 81) ∈ zTbl := z_t (i := 672) rfl rfl
set_option maxRecDepth 100000 in
theorem zc82 : Cond.code (zY 82) (zCode 82) (zML 82) (zRT 82) ∈ zTbl := z_t (i := 676) rfl rfl
set_option maxRecDepth 100000 in
theorem zc83 : Cond.code (zY 83) (zCode 83) (zML 83) (zRT 83) ∈ zTbl := z_t (i := 680) rfl rfl
set_option maxRecDepth 100000 in
theorem zc84 : Cond.code (zY 84) (zCode 84) (zML 84) (zRT 84) ∈ zTbl := z_t (i := 684) rfl rfl
set_option maxRecDepth 100000 in
theorem zc85 : Cond.code (zY 85) (zCode 85) (zML 85) (zRT 85) ∈ zTbl := z_t (i := 688) rfl rfl
set_option maxRecDepth 100000 in
theorem zc86 : Cond.code (zY 86) (zCode 86) (zML 86) (zRT 86) ∈ zTbl := z_t (i := 692) rfl rfl
set_option maxRecDepth 100000 in
theorem zc87 : Cond.code (zY 87) (zCode 87) (zML 87) (zRT 87) ∈ zTbl := z_t (i := 696) rfl rfl
set_option maxRecDepth 100000 in
theorem zc88 : Cond.code (zY 88) (zCode 88) (zML 88) (zRT 88) ∈ zTbl := z_t (i := 700) rfl rfl
set_option maxRecDepth 100000 in
theorem zc89 : Cond.code (zY 89) (zCode 89) (zML 89) (zRT 89) ∈ zTbl := z_t (i := 704) rfl rfl
set_option maxRecDepth 100000 in
theorem zc90 : Cond.code (zY 90) (zCode 90) (zML 90) (zRT 90) ∈ zTbl := z_t (i := 708) rfl rfl
set_option maxRecDepth 100000 in
theorem zc91 : Cond.code (zY 91) (zCode 91) (zML 91) (zRT 91) ∈ zTbl := z_t (i := 712) rfl rfl
set_option maxRecDepth 100000 in
theorem zc92 : Cond.code (zY 92) (zCode 92) (zML 92) (zRT 92) ∈ zTbl := z_t (i := 716) rfl rfl
set_option maxRecDepth 100000 in
theorem zc93 : Cond.code (zY 93) (zCode 93) (zML 93) (zRT 93) ∈ zTbl := z_t (i := 720) rfl rfl
set_option maxRecDepth 100000 in
theorem zc94 : Cond.code (zY 94) (zCode 94) (zML 94) (zRT 94) ∈ zTbl := z_t (i := 724) rfl rfl
set_option maxRecDepth 100000 in
theorem zc95 : Cond.code (zY 95) (zCode 95) (zML 95) (zRT 95) ∈ zTbl := z_t (i := 728) rfl rfl
set_option maxRecDepth 100000 in
theorem zc96 : Cond.code (zY 96) (zCode 96) (zML 96) (zRT 96) ∈ zTbl := z_t (i := 732) rfl rfl
set_option maxRecDepth 100000 in
theorem zc97 : Cond.code (zY 97) (zCode 97) (zML 97) (zRT 97) ∈ zTbl := z_t (i := 736) rfl rfl
set_option maxRecDepth 100000 in
theorem zc98 : Cond.code (zY 98) (zCode 98) (zML 98) (zRT 98) ∈ zTbl := z_t (i := 740) rfl rfl
set_option maxRecDepth 100000 in
theorem zc99 : Cond.code (zY 99) (zCode 99) (zML 99) (zRT 99) ∈ zTbl := z_t (i := 744) rfl rfl
set_option maxRecDepth 100000 in
theorem zc100 : Cond.code (zY 100) (zCode 100) (zML 100) (zRT 100) ∈ zTbl := z_t (i := 748) rfl rfl
set_option maxRecDepth 100000 in
theorem zc101 : Cond.code (zY 101) (zCode 101) (zML 101) (zRT 101) ∈ zTbl := z_t (i := 752) rfl rfl
set_option maxRecDepth 100000 in
theorem zc102 : Cond.code (zY 102) (zCode 102) (zML 102) (zRT 102) ∈ zTbl := z_t (i := 756) rfl rfl
set_option maxRecDepth 100000 in
theorem zc103 : Cond.code (zY 103) (zCode 103) (zML 103) (zRT 103) ∈ zTbl := z_t (i := 760) rfl rfl
set_option maxRecDepth 100000 in
theorem zc104 : Cond.code (zY 104) (zCode 104) (zML 104) (zRT 104) ∈ zTbl := z_t (i := 764) rfl rfl
set_option maxRecDepth 100000 in
theorem zc105 : Cond.code (zY 105) (zCode 105) (zML 105) (zRT 105) ∈ zTbl := z_t (i := 768) rfl rfl
set_option maxRecDepth 100000 in
theorem zc106 : Cond.code (zY 106) (zCode 106) (zML 106) (zRT 106) ∈ zTbl := z_t (i := 772) rfl rfl
set_option maxRecDepth 100000 in
theorem zc107 : Cond.code (zY 107) (zCode 107) (zML 107) (zRT 107) ∈ zTbl := z_t (i := 776) rfl rfl
set_option maxRecDepth 100000 in
theorem zc108 : Cond.code (zY 108) (zCode 108) (zML 108) (zRT 108) ∈ zTbl := z_t (i := 780) rfl rfl
theorem zc_all : ∀ mj, 0 < mj → mj < zLaw → Cond.code (zY mj) (zCode mj) (zML mj) (zRT mj) ∈ zTbl
  | 0, h, _ => absurd h (by decide)
  | 1, _, _ => zc1
  | 2, _, _ => zc2
  | 3, _, _ => zc3
  | 4, _, _ => zc4
  | 5, _, _ => zc5
  | 6, _, _ => zc6
  | 7, _, _ => zc7
  | 8, _, _ => zc8
  | 9, _, _ => zc9
  | 10, _, _ => zc10
  | 11, _, _ => zc11
  | 12, _, _ => zc12
  | 13, _, _ => zc13
  | 14, _, _ => zc14
  | 15, _, _ => zc15
  | 16, _, _ => zc16
  | 17, _, _ => zc17
  | 18, _, _ => zc18
  | 19, _, _ => zc19
  | 20, _, _ => zc20
  | 21, _, _ => zc21
  | 22, _, _ => zc22
  | 23, _, _ => zc23
  | 24, _, _ => zc24
  | 25, _, _ => zc25
  | 26, _, _ => zc26
  | 27, _, _ => zc27
  | 28, _, _ => zc28
  | 29, _, _ => zc29
  | 30, _, _ => zc30
  | 31, _, _ => zc31
  | 32, _, _ => zc32
  | 33, _, _ => zc33
  | 34, _, _ => zc34
  | 35, _, _ => zc35
  | 36, _, _ => zc36
  | 37, _, _ => zc37
  | 38, _, _ => zc38
  | 39, _, _ => zc39
  | 40, _, _ => zc40
  | 41, _, _ => zc41
  | 42, _, _ => zc42
  | 43, _, _ => zc43
  | 44, _, _ => zc44
  | 45, _, _ => zc45
  | 46, _, _ => zc46
  | 47, _, _ => zc47
  | 48, _, _ => zc48
  | 49, _, _ => zc49
  | 50, _, _ => zc50
  | 51, _, _ => zc51
  | 52, _, _ => zc52
  | 53, _, _ => zc53
  | 54, _, _ => zc54
  | 55, _, _ => zc55
  | 56, _, _ => zc56
  | 57, _, _ => zc57
  | 58, _, _ => zc58
  | 59, _, _ => zc59
  | 60, _, _ => zc60
  | 61, _, _ => zc61
  | 62, _, _ => zc62
  | 63, _, _ => zc63
  | 64, _, _ => zc64
  | 65, _, _ => zc65
  | 66, _, _ => zc66
  | 67, _, _ => zc67
  | 68, _, _ => zc68
  | 69, _, _ => zc69
  | 70, _, _ => zc70
  | 71, _, _ => zc71
  | 72, _, _ => zc72
  | 73, _, _ => zc73
  | 74, _, _ => zc74
  | 75, _, _ => zc75
  | 76, _, _ => zc76
  | 77, _, _ => zc77
  | 78, _, _ => zc78
  | 79, _, _ => zc79
  | 80, _, _ => zc80
  | 81, _, _ => zc81
  | 82, _, _ => zc82
  | 83, _, _ => zc83
  | 84, _, _ => zc84
  | 85, _, _ => zc85
  | 86, _, _ => zc86
  | 87, _, _ => zc87
  | 88, _, _ => zc88
  | 89, _, _ => zc89
  | 90, _, _ => zc90
  | 91, _, _ => zc91
  | 92, _, _ => zc92
  | 93, _, _ => zc93
  | 94, _, _ => zc94
  | 95, _, _ => zc95
  | 96, _, _ => zc96
  | 97, _, _ => zc97
  | 98, _, _ => zc98
  | 99, _, _ => zc99
  | 100, _, _ => zc100
  | 101, _, _ => zc101
  | 102, _, _ => zc102
  | 103, _, _ => zc103
  | 104, _, _ => zc104
  | 105, _, _ => zc105
  | 106, _, _ => zc106
  | 107, _, _ => zc107
  | 108, _, _ => zc108
  | m + 109, _, h => absurd h (by unfold zLaw; omega)
