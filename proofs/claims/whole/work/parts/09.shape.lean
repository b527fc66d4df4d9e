def shW : SH := [(11, 9), (0, 5), (5, 3), (15, 16), (15, 16), (1, 6), (15, 6), (15, 6), (15, 6), (15, 6), (15, 24), (4, 8), (15, 10), (15, 10), (15, 10), (15, 10), (15, 10), (15, 10), (15, 10), (8, 2), (15, 200), (18, 4), (6, 5), (14, 160), (2, 7), (15, 12), (15, 12), (15, 160), (15, 160), (15, 16), (9, 4), (9, 4), (3, 9), (15, 10), (15, 10), (15, 10), (15, 4), (15, 9), (15, 60), (7, 3), (15, 7), (10, 11), (15, 1024), (15, 1024), (15, 1024), (15, 1024), (15, 1024), (15, 1024), (16, 1024), (16, 1024), (2, 7), (15, 12), (15, 12), (15, 160), (15, 160), (15, 16), (2, 7), (15, 12), (15, 12), (15, 160), (15, 160), (15, 16), (2, 7), (15, 12), (15, 12), (15, 160), (15, 160), (15, 16), (2, 7), (15, 12), (15, 12), (15, 160), (15, 160), (15, 16), (12, 69), (13, 200), (15, 16), (15, 16), (15, 6), (15, 6), (15, 6), (15, 6), (15, 24), (15, 10), (15, 10), (15, 10), (15, 10), (15, 10), (15, 10), (15, 4), (15, 48), (15, 48), (15, 48), (15, 640), (15, 640), (15, 12), (15, 12), (15, 12), (15, 160), (15, 160), (15, 200), (15, 10), (15, 10), (15, 10), (15, 200), (17, 200), (15, 6144), (15, 1024), (15, 1024), (16, 1024), (16, 1024), (15, 1024), (15, 1024), (16, 1024), (16, 1024), (15, 10), (15, 10), (17, 1734), (17, 1734)]
/-- the references that never change, by owner and field -/
def rs (c k : Nat) : Option Nat := match c, k with
  | 0, 0 => some 1
  | 0, 1 => some 19
  | 0, 2 => some 21
  | 0, 3 => some 22
  | 0, 4 => some 30
  | 0, 5 => some 31
  | 0, 6 => some 32
  | 0, 7 => some 39
  | 0, 8 => some 41
  | 1, 0 => some 2
  | 1, 1 => some 5
  | 1, 2 => some 11
  | 2, 0 => some 3
  | 2, 1 => some 4
  | 5, 0 => some 6
  | 5, 1 => some 7
  | 5, 2 => some 8
  | 5, 3 => some 9
  | 5, 4 => some 10
  | 11, 0 => some 12
  | 11, 1 => some 13
  | 11, 2 => some 14
  | 11, 3 => some 15
  | 11, 4 => some 16
  | 11, 5 => some 17
  | 11, 6 => some 18
  | 19, 0 => some 20
  | 22, 0 => some 23
  | 24, 0 => some 25
  | 24, 1 => some 26
  | 24, 2 => some 27
  | 24, 3 => some 28
  | 24, 4 => some 29
  | 30, 0 => some 21
  | 31, 0 => some 21
  | 32, 0 => some 1
  | 32, 1 => some 33
  | 32, 2 => some 34
  | 32, 3 => some 35
  | 32, 4 => some 36
  | 32, 5 => some 37
  | 32, 6 => some 38
  | 39, 0 => some 1
  | 39, 1 => some 32
  | 39, 2 => some 40
  | 41, 0 => some 1
  | 41, 1 => some 32
  | 41, 2 => some 42
  | 41, 3 => some 43
  | 41, 4 => some 44
  | 41, 5 => some 45
  | 41, 6 => some 46
  | 41, 7 => some 47
  | 41, 8 => some 48
  | 41, 9 => some 49
  | 50, 0 => some 51
  | 50, 1 => some 52
  | 50, 2 => some 53
  | 50, 3 => some 54
  | 50, 4 => some 55
  | 56, 0 => some 57
  | 56, 1 => some 58
  | 56, 2 => some 59
  | 56, 3 => some 60
  | 56, 4 => some 61
  | 62, 0 => some 63
  | 62, 1 => some 64
  | 62, 2 => some 65
  | 62, 3 => some 66
  | 62, 4 => some 67
  | 68, 0 => some 69
  | 68, 1 => some 70
  | 68, 2 => some 71
  | 68, 3 => some 72
  | 68, 4 => some 73
  | 74, 0 => some 75
  | 74, 10 => some 76
  | 74, 11 => some 77
  | 74, 12 => some 78
  | 74, 13 => some 79
  | 74, 14 => some 80
  | 74, 15 => some 81
  | 74, 16 => some 82
  | 74, 17 => some 83
  | 74, 18 => some 84
  | 74, 19 => some 85
  | 74, 20 => some 86
  | 74, 21 => some 87
  | 74, 22 => some 88
  | 74, 24 => some 89
  | 74, 25 => some 90
  | 74, 26 => some 91
  | 74, 27 => some 92
  | 74, 28 => some 93
  | 74, 29 => some 94
  | 74, 30 => some 95
  | 74, 31 => some 96
  | 74, 32 => some 97
  | 74, 33 => some 98
  | 74, 34 => some 99
  | 74, 44 => some 100
  | 74, 47 => some 101
  | 74, 48 => some 102
  | 74, 49 => some 103
  | 74, 50 => some 104
  | 74, 51 => some 105
  | 74, 52 => some 106
  | 74, 53 => some 107
  | 74, 54 => some 108
  | 74, 55 => some 109
  | 74, 56 => some 110
  | 74, 57 => some 111
  | 74, 58 => some 112
  | 74, 59 => some 113
  | 74, 60 => some 114
  | 74, 61 => some 115
  | 74, 66 => some 116
  | 74, 67 => some 117
  | 74, 68 => some 118
  | _, _ => none
def RS (r : RR) : Prop := ∀ c k x, rs c k = some x → r c k = some x
theorem fd0_0 : FD 0 0 "FontList$Books" "names" "LFontList$Names;" true 2 := ⟨TX0, 5, tyX0, rfl, inX0, by decide, rfl, tyX0_ok, nmX0, rfl, rfl, by decide⟩
theorem fd0_1 : FD 0 1 "FontList$Books" "couples" "LFontList$Couples;" true 2 := ⟨TX0, 5, tyX0, rfl, inX0, by decide, rfl, tyX0_ok, nmX0, rfl, rfl, by decide⟩
theorem fd0_2 : FD 0 2 "FontList$Books" "fonts" "LFontList$Fonts;" true 2 := ⟨TX0, 5, tyX0, rfl, inX0, by decide, rfl, tyX0_ok, nmX0, rfl, rfl, by decide⟩
theorem fd0_3 : FD 0 3 "FontList$Books" "loss" "I" false 0 := ⟨TX0, 5, tyX0, rfl, inX0, by decide, rfl, tyX0_ok, nmX0, rfl, rfl, by decide⟩
theorem fd0_4 : FD 0 4 "FontList$Books" "alone" "I" false 0 := ⟨TX0, 5, tyX0, rfl, inX0, by decide, rfl, tyX0_ok, nmX0, rfl, rfl, by decide⟩
theorem fd1_0 : FD 1 0 "FontList$Couples" "husband" "[I" true 2 := ⟨TX1, 6, tyX1, rfl, inX1, by decide, rfl, tyX1_ok, nmX1, rfl, rfl, by decide⟩
theorem fd1_1 : FD 1 1 "FontList$Couples" "wife" "[I" true 2 := ⟨TX1, 6, tyX1, rfl, inX1, by decide, rfl, tyX1_ok, nmX1, rfl, rfl, by decide⟩
theorem fd1_2 : FD 1 2 "FontList$Couples" "wed" "[I" true 2 := ⟨TX1, 6, tyX1, rfl, inX1, by decide, rfl, tyX1_ok, nmX1, rfl, rfl, by decide⟩
theorem fd1_3 : FD 1 3 "FontList$Couples" "last" "[I" true 2 := ⟨TX1, 6, tyX1, rfl, inX1, by decide, rfl, tyX1_ok, nmX1, rfl, rfl, by decide⟩
theorem fd1_4 : FD 1 4 "FontList$Couples" "parents" "[I" true 2 := ⟨TX1, 6, tyX1, rfl, inX1, by decide, rfl, tyX1_ok, nmX1, rfl, rfl, by decide⟩
theorem fd1_5 : FD 1 5 "FontList$Couples" "size" "I" false 0 := ⟨TX1, 6, tyX1, rfl, inX1, by decide, rfl, tyX1_ok, nmX1, rfl, rfl, by decide⟩
theorem fd2_0 : FD 2 0 "FontList$Custom" "letters" "[I" true 2 := ⟨TX2, 7, tyX2, rfl, inX2, by decide, rfl, tyX2_ok, nmX2, rfl, rfl, by decide⟩
theorem fd2_1 : FD 2 1 "FontList$Custom" "ends" "[I" true 2 := ⟨TX2, 7, tyX2, rfl, inX2, by decide, rfl, tyX2_ok, nmX2, rfl, rfl, by decide⟩
theorem fd2_2 : FD 2 2 "FontList$Custom" "signs" "[I" true 2 := ⟨TX2, 7, tyX2, rfl, inX2, by decide, rfl, tyX2_ok, nmX2, rfl, rfl, by decide⟩
theorem fd2_3 : FD 2 3 "FontList$Custom" "values" "[I" true 2 := ⟨TX2, 7, tyX2, rfl, inX2, by decide, rfl, tyX2_ok, nmX2, rfl, rfl, by decide⟩
theorem fd2_4 : FD 2 4 "FontList$Custom" "stack" "[I" true 2 := ⟨TX2, 7, tyX2, rfl, inX2, by decide, rfl, tyX2_ok, nmX2, rfl, rfl, by decide⟩
theorem fd2_5 : FD 2 5 "FontList$Custom" "steps" "I" false 0 := ⟨TX2, 7, tyX2, rfl, inX2, by decide, rfl, tyX2_ok, nmX2, rfl, rfl, by decide⟩
theorem fd2_6 : FD 2 6 "FontList$Custom" "clauses" "I" false 0 := ⟨TX2, 7, tyX2, rfl, inX2, by decide, rfl, tyX2_ok, nmX2, rfl, rfl, by decide⟩
theorem fd3_0 : FD 3 0 "FontList$Family" "books" "LFontList$Books;" true 2 := ⟨TX3, 9, tyX3, rfl, inX3, by decide, rfl, tyX3_ok, nmX3, rfl, rfl, by decide⟩
theorem fd3_1 : FD 3 1 "FontList$Family" "child" "[I" true 2 := ⟨TX3, 9, tyX3, rfl, inX3, by decide, rfl, tyX3_ok, nmX3, rfl, rfl, by decide⟩
theorem fd3_2 : FD 3 2 "FontList$Family" "letter" "[I" true 2 := ⟨TX3, 9, tyX3, rfl, inX3, by decide, rfl, tyX3_ok, nmX3, rfl, rfl, by decide⟩
theorem fd3_3 : FD 3 3 "FontList$Family" "dead" "[I" true 2 := ⟨TX3, 9, tyX3, rfl, inX3, by decide, rfl, tyX3_ok, nmX3, rfl, rfl, by decide⟩
theorem fd3_4 : FD 3 4 "FontList$Family" "held" "[I" true 2 := ⟨TX3, 9, tyX3, rfl, inX3, by decide, rfl, tyX3_ok, nmX3, rfl, rfl, by decide⟩
theorem fd3_5 : FD 3 5 "FontList$Family" "facts" "[I" true 2 := ⟨TX3, 9, tyX3, rfl, inX3, by decide, rfl, tyX3_ok, nmX3, rfl, rfl, by decide⟩
theorem fd3_6 : FD 3 6 "FontList$Family" "foreseen" "[I" true 2 := ⟨TX3, 9, tyX3, rfl, inX3, by decide, rfl, tyX3_ok, nmX3, rfl, rfl, by decide⟩
theorem fd3_7 : FD 3 7 "FontList$Family" "couple" "I" false 0 := ⟨TX3, 9, tyX3, rfl, inX3, by decide, rfl, tyX3_ok, nmX3, rfl, rfl, by decide⟩
theorem fd3_8 : FD 3 8 "FontList$Family" "size" "I" false 0 := ⟨TX3, 9, tyX3, rfl, inX3, by decide, rfl, tyX3_ok, nmX3, rfl, rfl, by decide⟩
theorem fd4_0 : FD 4 0 "FontList$Fonts" "name" "[I" true 2 := ⟨TX4, 8, tyX4, rfl, inX4, by decide, rfl, tyX4_ok, nmX4, rfl, rfl, by decide⟩
theorem fd4_1 : FD 4 1 "FontList$Fonts" "year" "[I" true 2 := ⟨TX4, 8, tyX4, rfl, inX4, by decide, rfl, tyX4_ok, nmX4, rfl, rfl, by decide⟩
theorem fd4_2 : FD 4 2 "FontList$Fonts" "father" "[I" true 2 := ⟨TX4, 8, tyX4, rfl, inX4, by decide, rfl, tyX4_ok, nmX4, rfl, rfl, by decide⟩
theorem fd4_3 : FD 4 3 "FontList$Fonts" "mother" "[I" true 2 := ⟨TX4, 8, tyX4, rfl, inX4, by decide, rfl, tyX4_ok, nmX4, rfl, rfl, by decide⟩
theorem fd4_4 : FD 4 4 "FontList$Fonts" "sponsor" "[I" true 2 := ⟨TX4, 8, tyX4, rfl, inX4, by decide, rfl, tyX4_ok, nmX4, rfl, rfl, by decide⟩
theorem fd4_5 : FD 4 5 "FontList$Fonts" "gone" "[I" true 2 := ⟨TX4, 8, tyX4, rfl, inX4, by decide, rfl, tyX4_ok, nmX4, rfl, rfl, by decide⟩
theorem fd4_6 : FD 4 6 "FontList$Fonts" "order" "[I" true 2 := ⟨TX4, 8, tyX4, rfl, inX4, by decide, rfl, tyX4_ok, nmX4, rfl, rfl, by decide⟩
theorem fd4_7 : FD 4 7 "FontList$Fonts" "size" "I" false 0 := ⟨TX4, 8, tyX4, rfl, inX4, by decide, rfl, tyX4_ok, nmX4, rfl, rfl, by decide⟩
theorem fd5_0 : FD 5 0 "FontList$Names" "sex" "[I" true 2 := ⟨TX5, 3, tyX5, rfl, inX5, by decide, rfl, tyX5_ok, nmX5, rfl, rfl, by decide⟩
theorem fd5_1 : FD 5 1 "FontList$Names" "says" "[I" true 2 := ⟨TX5, 3, tyX5, rfl, inX5, by decide, rfl, tyX5_ok, nmX5, rfl, rfl, by decide⟩
theorem fd5_2 : FD 5 2 "FontList$Names" "size" "I" false 0 := ⟨TX5, 3, tyX5, rfl, inX5, by decide, rfl, tyX5_ok, nmX5, rfl, rfl, by decide⟩
theorem fd6_0 : FD 6 0 "FontList$Reader" "text" "[C" true 2 := ⟨TX6, 5, tyX6, rfl, inX6, by decide, rfl, tyX6_ok, nmX6, rfl, rfl, by decide⟩
theorem fd6_1 : FD 6 1 "FontList$Reader" "draft" "LFontList$Custom;" false 2 := ⟨TX6, 5, tyX6, rfl, inX6, by decide, rfl, tyX6_ok, nmX6, rfl, rfl, by decide⟩
theorem fd6_2 : FD 6 2 "FontList$Reader" "length" "I" false 0 := ⟨TX6, 5, tyX6, rfl, inX6, by decide, rfl, tyX6_ok, nmX6, rfl, rfl, by decide⟩
theorem fd6_3 : FD 6 3 "FontList$Reader" "at" "I" false 0 := ⟨TX6, 5, tyX6, rfl, inX6, by decide, rfl, tyX6_ok, nmX6, rfl, rfl, by decide⟩
theorem fd6_4 : FD 6 4 "FontList$Reader" "fault" "I" false 0 := ⟨TX6, 5, tyX6, rfl, inX6, by decide, rfl, tyX6_ok, nmX6, rfl, rfl, by decide⟩
theorem fd7_0 : FD 7 0 "FontList$Row" "books" "LFontList$Books;" true 2 := ⟨TX7, 3, tyX7, rfl, inX7, by decide, rfl, tyX7_ok, nmX7, rfl, rfl, by decide⟩
theorem fd7_1 : FD 7 1 "FontList$Row" "family" "LFontList$Family;" true 2 := ⟨TX7, 3, tyX7, rfl, inX7, by decide, rfl, tyX7_ok, nmX7, rfl, rfl, by decide⟩
theorem fd7_2 : FD 7 2 "FontList$Row" "sets" "[I" true 2 := ⟨TX7, 3, tyX7, rfl, inX7, by decide, rfl, tyX7_ok, nmX7, rfl, rfl, by decide⟩
theorem fd8_0 : FD 8 0 "FontList$Tape" "bytes" "[I" true 2 := ⟨TX8, 2, tyX8, rfl, inX8, by decide, rfl, tyX8_ok, nmX8, rfl, rfl, by decide⟩
theorem fd8_1 : FD 8 1 "FontList$Tape" "size" "I" false 0 := ⟨TX8, 2, tyX8, rfl, inX8, by decide, rfl, tyX8_ok, nmX8, rfl, rfl, by decide⟩
theorem fd9_0 : FD 9 0 "FontList$Usage" "told" "[LFontList$Custom;" true 2 := ⟨TX9, 4, tyX9, rfl, inX9, by decide, rfl, tyX9_ok, nmX9, rfl, rfl, by decide⟩
theorem fd9_1 : FD 9 1 "FontList$Usage" "ahead" "I" false 0 := ⟨TX9, 4, tyX9, rfl, inX9, by decide, rfl, tyX9_ok, nmX9, rfl, rfl, by decide⟩
theorem fd9_2 : FD 9 2 "FontList$Usage" "since" "I" false 0 := ⟨TX9, 4, tyX9, rfl, inX9, by decide, rfl, tyX9_ok, nmX9, rfl, rfl, by decide⟩
theorem fd9_3 : FD 9 3 "FontList$Usage" "change" "I" false 0 := ⟨TX9, 4, tyX9, rfl, inX9, by decide, rfl, tyX9_ok, nmX9, rfl, rfl, by decide⟩
theorem fd10_0 : FD 10 0 "FontList$Ways" "books" "LFontList$Books;" true 2 := ⟨TX10, 11, tyX10, rfl, inX10, by decide, rfl, tyX10_ok, nmX10, rfl, rfl, by decide⟩
theorem fd10_1 : FD 10 1 "FontList$Ways" "family" "LFontList$Family;" true 2 := ⟨TX10, 11, tyX10, rfl, inX10, by decide, rfl, tyX10_ok, nmX10, rfl, rfl, by decide⟩
theorem fd10_2 : FD 10 2 "FontList$Ways" "worth" "[I" true 2 := ⟨TX10, 11, tyX10, rfl, inX10, by decide, rfl, tyX10_ok, nmX10, rfl, rfl, by decide⟩
theorem fd10_3 : FD 10 3 "FontList$Ways" "spread" "[I" true 2 := ⟨TX10, 11, tyX10, rfl, inX10, by decide, rfl, tyX10_ok, nmX10, rfl, rfl, by decide⟩
theorem fd10_4 : FD 10 4 "FontList$Ways" "most" "[I" true 2 := ⟨TX10, 11, tyX10, rfl, inX10, by decide, rfl, tyX10_ok, nmX10, rfl, rfl, by decide⟩
theorem fd10_5 : FD 10 5 "FontList$Ways" "next" "[I" true 2 := ⟨TX10, 11, tyX10, rfl, inX10, by decide, rfl, tyX10_ok, nmX10, rfl, rfl, by decide⟩
theorem fd10_6 : FD 10 6 "FontList$Ways" "least" "[I" true 2 := ⟨TX10, 11, tyX10, rfl, inX10, by decide, rfl, tyX10_ok, nmX10, rfl, rfl, by decide⟩
theorem fd10_7 : FD 10 7 "FontList$Ways" "common" "[I" true 2 := ⟨TX10, 11, tyX10, rfl, inX10, by decide, rfl, tyX10_ok, nmX10, rfl, rfl, by decide⟩
theorem fd10_8 : FD 10 8 "FontList$Ways" "bests" "[J" true 2 := ⟨TX10, 11, tyX10, rfl, inX10, by decide, rfl, tyX10_ok, nmX10, rfl, rfl, by decide⟩
theorem fd10_9 : FD 10 9 "FontList$Ways" "all" "[J" true 2 := ⟨TX10, 11, tyX10, rfl, inX10, by decide, rfl, tyX10_ok, nmX10, rfl, rfl, by decide⟩
theorem fd10_10 : FD 10 10 "FontList$Ways" "settled" "Z" false 0 := ⟨TX10, 11, tyX10, rfl, inX10, by decide, rfl, tyX10_ok, nmX10, rfl, rfl, by decide⟩
theorem fd11_0 : FD 11 0 "FontList" "books" "LFontList$Books;" true 2 := ⟨TX11, 9, tyX11, rfl, inX11, by decide, rfl, tyX11_ok, nmX11, rfl, rfl, by decide⟩
theorem fd11_1 : FD 11 1 "FontList" "tape" "LFontList$Tape;" true 2 := ⟨TX11, 9, tyX11, rfl, inX11, by decide, rfl, tyX11_ok, nmX11, rfl, rfl, by decide⟩
theorem fd11_2 : FD 11 2 "FontList" "told" "[LFontList$Custom;" true 2 := ⟨TX11, 9, tyX11, rfl, inX11, by decide, rfl, tyX11_ok, nmX11, rfl, rfl, by decide⟩
theorem fd11_3 : FD 11 3 "FontList" "reader" "LFontList$Reader;" true 2 := ⟨TX11, 9, tyX11, rfl, inX11, by decide, rfl, tyX11_ok, nmX11, rfl, rfl, by decide⟩
theorem fd11_4 : FD 11 4 "FontList" "usage" "LFontList$Usage;" true 2 := ⟨TX11, 9, tyX11, rfl, inX11, by decide, rfl, tyX11_ok, nmX11, rfl, rfl, by decide⟩
theorem fd11_5 : FD 11 5 "FontList" "trial" "LFontList$Usage;" true 2 := ⟨TX11, 9, tyX11, rfl, inX11, by decide, rfl, tyX11_ok, nmX11, rfl, rfl, by decide⟩
theorem fd11_6 : FD 11 6 "FontList" "household" "LFontList$Family;" true 2 := ⟨TX11, 9, tyX11, rfl, inX11, by decide, rfl, tyX11_ok, nmX11, rfl, rfl, by decide⟩
theorem fd11_7 : FD 11 7 "FontList" "row" "LFontList$Row;" true 2 := ⟨TX11, 9, tyX11, rfl, inX11, by decide, rfl, tyX11_ok, nmX11, rfl, rfl, by decide⟩
theorem fd11_8 : FD 11 8 "FontList" "search" "LFontList$Ways;" true 2 := ⟨TX11, 9, tyX11, rfl, inX11, by decide, rfl, tyX11_ok, nmX11, rfl, rfl, by decide⟩
theorem fd12_0 : FD 12 0 "FontListModel" "tape" "[B" true 2 := ⟨TX12, 69, tyX12, rfl, inX12, by decide, rfl, tyX12_ok, nmX12, rfl, rfl, by decide⟩
theorem fd12_1 : FD 12 1 "FontListModel" "taped" "I" false 0 := ⟨TX12, 69, tyX12, rfl, inX12, by decide, rfl, tyX12_ok, nmX12, rfl, rfl, by decide⟩
theorem fd12_2 : FD 12 2 "FontListModel" "names" "I" false 0 := ⟨TX12, 69, tyX12, rfl, inX12, by decide, rfl, tyX12_ok, nmX12, rfl, rfl, by decide⟩
theorem fd12_3 : FD 12 3 "FontListModel" "couples" "I" false 0 := ⟨TX12, 69, tyX12, rfl, inX12, by decide, rfl, tyX12_ok, nmX12, rfl, rfl, by decide⟩
theorem fd12_4 : FD 12 4 "FontListModel" "fonts" "I" false 0 := ⟨TX12, 69, tyX12, rfl, inX12, by decide, rfl, tyX12_ok, nmX12, rfl, rfl, by decide⟩
theorem fd12_5 : FD 12 5 "FontListModel" "customA" "I" false 0 := ⟨TX12, 69, tyX12, rfl, inX12, by decide, rfl, tyX12_ok, nmX12, rfl, rfl, by decide⟩
theorem fd12_6 : FD 12 6 "FontListModel" "customB" "I" false 0 := ⟨TX12, 69, tyX12, rfl, inX12, by decide, rfl, tyX12_ok, nmX12, rfl, rfl, by decide⟩
theorem fd12_7 : FD 12 7 "FontListModel" "change" "I" false 0 := ⟨TX12, 69, tyX12, rfl, inX12, by decide, rfl, tyX12_ok, nmX12, rfl, rfl, by decide⟩
theorem fd12_8 : FD 12 8 "FontListModel" "loss" "I" false 0 := ⟨TX12, 69, tyX12, rfl, inX12, by decide, rfl, tyX12_ok, nmX12, rfl, rfl, by decide⟩
theorem fd12_9 : FD 12 9 "FontListModel" "alone" "I" false 0 := ⟨TX12, 69, tyX12, rfl, inX12, by decide, rfl, tyX12_ok, nmX12, rfl, rfl, by decide⟩
theorem fd12_10 : FD 12 10 "FontListModel" "sex" "[I" true 2 := ⟨TX12, 69, tyX12, rfl, inX12, by decide, rfl, tyX12_ok, nmX12, rfl, rfl, by decide⟩
theorem fd12_11 : FD 12 11 "FontListModel" "says" "[I" true 2 := ⟨TX12, 69, tyX12, rfl, inX12, by decide, rfl, tyX12_ok, nmX12, rfl, rfl, by decide⟩
theorem fd12_12 : FD 12 12 "FontListModel" "husband" "[I" true 2 := ⟨TX12, 69, tyX12, rfl, inX12, by decide, rfl, tyX12_ok, nmX12, rfl, rfl, by decide⟩
theorem fd12_13 : FD 12 13 "FontListModel" "wife" "[I" true 2 := ⟨TX12, 69, tyX12, rfl, inX12, by decide, rfl, tyX12_ok, nmX12, rfl, rfl, by decide⟩
theorem fd12_14 : FD 12 14 "FontListModel" "wed" "[I" true 2 := ⟨TX12, 69, tyX12, rfl, inX12, by decide, rfl, tyX12_ok, nmX12, rfl, rfl, by decide⟩
theorem fd12_15 : FD 12 15 "FontListModel" "until" "[I" true 2 := ⟨TX12, 69, tyX12, rfl, inX12, by decide, rfl, tyX12_ok, nmX12, rfl, rfl, by decide⟩
theorem fd12_16 : FD 12 16 "FontListModel" "parent" "[I" true 2 := ⟨TX12, 69, tyX12, rfl, inX12, by decide, rfl, tyX12_ok, nmX12, rfl, rfl, by decide⟩
theorem fd12_17 : FD 12 17 "FontListModel" "name" "[I" true 2 := ⟨TX12, 69, tyX12, rfl, inX12, by decide, rfl, tyX12_ok, nmX12, rfl, rfl, by decide⟩
theorem fd12_18 : FD 12 18 "FontListModel" "year" "[I" true 2 := ⟨TX12, 69, tyX12, rfl, inX12, by decide, rfl, tyX12_ok, nmX12, rfl, rfl, by decide⟩
theorem fd12_19 : FD 12 19 "FontListModel" "father" "[I" true 2 := ⟨TX12, 69, tyX12, rfl, inX12, by decide, rfl, tyX12_ok, nmX12, rfl, rfl, by decide⟩
theorem fd12_20 : FD 12 20 "FontListModel" "mother" "[I" true 2 := ⟨TX12, 69, tyX12, rfl, inX12, by decide, rfl, tyX12_ok, nmX12, rfl, rfl, by decide⟩
theorem fd12_21 : FD 12 21 "FontListModel" "sponsor" "[I" true 2 := ⟨TX12, 69, tyX12, rfl, inX12, by decide, rfl, tyX12_ok, nmX12, rfl, rfl, by decide⟩
theorem fd12_22 : FD 12 22 "FontListModel" "died" "[I" true 2 := ⟨TX12, 69, tyX12, rfl, inX12, by decide, rfl, tyX12_ok, nmX12, rfl, rfl, by decide⟩
theorem fd12_23 : FD 12 23 "FontListModel" "isKnown" "Z" false 0 := ⟨TX12, 69, tyX12, rfl, inX12, by decide, rfl, tyX12_ok, nmX12, rfl, rfl, by decide⟩
theorem fd12_24 : FD 12 24 "FontListModel" "many" "[I" true 2 := ⟨TX12, 69, tyX12, rfl, inX12, by decide, rfl, tyX12_ok, nmX12, rfl, rfl, by decide⟩
theorem fd12_25 : FD 12 25 "FontListModel" "clauseLetter" "[I" true 2 := ⟨TX12, 69, tyX12, rfl, inX12, by decide, rfl, tyX12_ok, nmX12, rfl, rfl, by decide⟩
theorem fd12_26 : FD 12 26 "FontListModel" "codeFrom" "[I" true 2 := ⟨TX12, 69, tyX12, rfl, inX12, by decide, rfl, tyX12_ok, nmX12, rfl, rfl, by decide⟩
theorem fd12_27 : FD 12 27 "FontListModel" "codeTo" "[I" true 2 := ⟨TX12, 69, tyX12, rfl, inX12, by decide, rfl, tyX12_ok, nmX12, rfl, rfl, by decide⟩
theorem fd12_28 : FD 12 28 "FontListModel" "code" "[I" true 2 := ⟨TX12, 69, tyX12, rfl, inX12, by decide, rfl, tyX12_ok, nmX12, rfl, rfl, by decide⟩
theorem fd12_29 : FD 12 29 "FontListModel" "codeArg" "[I" true 2 := ⟨TX12, 69, tyX12, rfl, inX12, by decide, rfl, tyX12_ok, nmX12, rfl, rfl, by decide⟩
theorem fd12_30 : FD 12 30 "FontListModel" "newLetter" "[I" true 2 := ⟨TX12, 69, tyX12, rfl, inX12, by decide, rfl, tyX12_ok, nmX12, rfl, rfl, by decide⟩
theorem fd12_31 : FD 12 31 "FontListModel" "newFrom" "[I" true 2 := ⟨TX12, 69, tyX12, rfl, inX12, by decide, rfl, tyX12_ok, nmX12, rfl, rfl, by decide⟩
theorem fd12_32 : FD 12 32 "FontListModel" "newTo" "[I" true 2 := ⟨TX12, 69, tyX12, rfl, inX12, by decide, rfl, tyX12_ok, nmX12, rfl, rfl, by decide⟩
theorem fd12_33 : FD 12 33 "FontListModel" "newCode" "[I" true 2 := ⟨TX12, 69, tyX12, rfl, inX12, by decide, rfl, tyX12_ok, nmX12, rfl, rfl, by decide⟩
theorem fd12_34 : FD 12 34 "FontListModel" "newArg" "[I" true 2 := ⟨TX12, 69, tyX12, rfl, inX12, by decide, rfl, tyX12_ok, nmX12, rfl, rfl, by decide⟩
theorem fd12_35 : FD 12 35 "FontListModel" "place" "I" false 0 := ⟨TX12, 69, tyX12, rfl, inX12, by decide, rfl, tyX12_ok, nmX12, rfl, rfl, by decide⟩
theorem fd12_36 : FD 12 36 "FontListModel" "end" "I" false 0 := ⟨TX12, 69, tyX12, rfl, inX12, by decide, rfl, tyX12_ok, nmX12, rfl, rfl, by decide⟩
theorem fd12_37 : FD 12 37 "FontListModel" "bad" "I" false 0 := ⟨TX12, 69, tyX12, rfl, inX12, by decide, rfl, tyX12_ok, nmX12, rfl, rfl, by decide⟩
theorem fd12_38 : FD 12 38 "FontListModel" "clauses" "I" false 0 := ⟨TX12, 69, tyX12, rfl, inX12, by decide, rfl, tyX12_ok, nmX12, rfl, rfl, by decide⟩
theorem fd12_39 : FD 12 39 "FontListModel" "codes" "I" false 0 := ⟨TX12, 69, tyX12, rfl, inX12, by decide, rfl, tyX12_ok, nmX12, rfl, rfl, by decide⟩
theorem fd12_40 : FD 12 40 "FontListModel" "open" "I" false 0 := ⟨TX12, 69, tyX12, rfl, inX12, by decide, rfl, tyX12_ok, nmX12, rfl, rfl, by decide⟩
theorem fd12_41 : FD 12 41 "FontListModel" "stacked" "I" false 0 := ⟨TX12, 69, tyX12, rfl, inX12, by decide, rfl, tyX12_ok, nmX12, rfl, rfl, by decide⟩
theorem fd12_42 : FD 12 42 "FontListModel" "isOver" "Z" false 0 := ⟨TX12, 69, tyX12, rfl, inX12, by decide, rfl, tyX12_ok, nmX12, rfl, rfl, by decide⟩
theorem fd12_43 : FD 12 43 "FontListModel" "isBehind" "Z" false 0 := ⟨TX12, 69, tyX12, rfl, inX12, by decide, rfl, tyX12_ok, nmX12, rfl, rfl, by decide⟩
theorem fd12_44 : FD 12 44 "FontListModel" "stack" "[I" true 2 := ⟨TX12, 69, tyX12, rfl, inX12, by decide, rfl, tyX12_ok, nmX12, rfl, rfl, by decide⟩
theorem fd12_45 : FD 12 45 "FontListModel" "ofCouple" "I" false 0 := ⟨TX12, 69, tyX12, rfl, inX12, by decide, rfl, tyX12_ok, nmX12, rfl, rfl, by decide⟩
theorem fd12_46 : FD 12 46 "FontListModel" "children" "I" false 0 := ⟨TX12, 69, tyX12, rfl, inX12, by decide, rfl, tyX12_ok, nmX12, rfl, rfl, by decide⟩
theorem fd12_47 : FD 12 47 "FontListModel" "child" "[I" true 2 := ⟨TX12, 69, tyX12, rfl, inX12, by decide, rfl, tyX12_ok, nmX12, rfl, rfl, by decide⟩
theorem fd12_48 : FD 12 48 "FontListModel" "clauseOf" "[I" true 2 := ⟨TX12, 69, tyX12, rfl, inX12, by decide, rfl, tyX12_ok, nmX12, rfl, rfl, by decide⟩
theorem fd12_49 : FD 12 49 "FontListModel" "nameOf" "[I" true 2 := ⟨TX12, 69, tyX12, rfl, inX12, by decide, rfl, tyX12_ok, nmX12, rfl, rfl, by decide⟩
theorem fd12_50 : FD 12 50 "FontListModel" "worth" "[I" true 2 := ⟨TX12, 69, tyX12, rfl, inX12, by decide, rfl, tyX12_ok, nmX12, rfl, rfl, by decide⟩
theorem fd12_51 : FD 12 51 "FontListModel" "isRefused" "[Z" true 2 := ⟨TX12, 69, tyX12, rfl, inX12, by decide, rfl, tyX12_ok, nmX12, rfl, rfl, by decide⟩
theorem fd12_52 : FD 12 52 "FontListModel" "brought" "[I" true 2 := ⟨TX12, 69, tyX12, rfl, inX12, by decide, rfl, tyX12_ok, nmX12, rfl, rfl, by decide⟩
theorem fd12_53 : FD 12 53 "FontListModel" "best" "[I" true 2 := ⟨TX12, 69, tyX12, rfl, inX12, by decide, rfl, tyX12_ok, nmX12, rfl, rfl, by decide⟩
theorem fd12_54 : FD 12 54 "FontListModel" "next" "[I" true 2 := ⟨TX12, 69, tyX12, rfl, inX12, by decide, rfl, tyX12_ok, nmX12, rfl, rfl, by decide⟩
theorem fd12_55 : FD 12 55 "FontListModel" "count" "[J" true 2 := ⟨TX12, 69, tyX12, rfl, inX12, by decide, rfl, tyX12_ok, nmX12, rfl, rfl, by decide⟩
theorem fd12_56 : FD 12 56 "FontListModel" "total" "[J" true 2 := ⟨TX12, 69, tyX12, rfl, inX12, by decide, rfl, tyX12_ok, nmX12, rfl, rfl, by decide⟩
theorem fd12_57 : FD 12 57 "FontListModel" "best2" "[I" true 2 := ⟨TX12, 69, tyX12, rfl, inX12, by decide, rfl, tyX12_ok, nmX12, rfl, rfl, by decide⟩
theorem fd12_58 : FD 12 58 "FontListModel" "next2" "[I" true 2 := ⟨TX12, 69, tyX12, rfl, inX12, by decide, rfl, tyX12_ok, nmX12, rfl, rfl, by decide⟩
theorem fd12_59 : FD 12 59 "FontListModel" "count2" "[J" true 2 := ⟨TX12, 69, tyX12, rfl, inX12, by decide, rfl, tyX12_ok, nmX12, rfl, rfl, by decide⟩
theorem fd12_60 : FD 12 60 "FontListModel" "total2" "[J" true 2 := ⟨TX12, 69, tyX12, rfl, inX12, by decide, rfl, tyX12_ok, nmX12, rfl, rfl, by decide⟩
theorem fd12_61 : FD 12 61 "FontListModel" "allowed" "[I" true 2 := ⟨TX12, 69, tyX12, rfl, inX12, by decide, rfl, tyX12_ok, nmX12, rfl, rfl, by decide⟩
theorem fd12_62 : FD 12 62 "FontListModel" "bestAll" "I" false 0 := ⟨TX12, 69, tyX12, rfl, inX12, by decide, rfl, tyX12_ok, nmX12, rfl, rfl, by decide⟩
theorem fd12_63 : FD 12 63 "FontListModel" "nextAll" "I" false 0 := ⟨TX12, 69, tyX12, rfl, inX12, by decide, rfl, tyX12_ok, nmX12, rfl, rfl, by decide⟩
theorem fd12_64 : FD 12 64 "FontListModel" "bestCount" "J" false 1 := ⟨TX12, 69, tyX12, rfl, inX12, by decide, rfl, tyX12_ok, nmX12, rfl, rfl, by decide⟩
theorem fd12_65 : FD 12 65 "FontListModel" "allCount" "J" false 1 := ⟨TX12, 69, tyX12, rfl, inX12, by decide, rfl, tyX12_ok, nmX12, rfl, rfl, by decide⟩
theorem fd12_66 : FD 12 66 "FontListModel" "row" "[I" true 2 := ⟨TX12, 69, tyX12, rfl, inX12, by decide, rfl, tyX12_ok, nmX12, rfl, rfl, by decide⟩
theorem fd12_67 : FD 12 67 "FontListModel" "can" "[Z" true 2 := ⟨TX12, 69, tyX12, rfl, inX12, by decide, rfl, tyX12_ok, nmX12, rfl, rfl, by decide⟩
theorem fd12_68 : FD 12 68 "FontListModel" "canThen" "[Z" true 2 := ⟨TX12, 69, tyX12, rfl, inX12, by decide, rfl, tyX12_ok, nmX12, rfl, rfl, by decide⟩
def mX11_init (R : Room) : MI := (yX11_init, cX11_init, 2, none, R)
theorem mvX11_init (R : Room) : MV (mX11_init R) 0 := ⟨knX11, kcX11_init, (by decide +kernel : yX11_init.cls ≠ "java/lang/invoke/MethodHandle" ∧ yX11_init.cls ≠ "java/lang/invoke/VarHandle" ∧ (parseMethodDescriptor yX11_init.desc).map (fun d => d.parameters.length) = some 0)⟩
def mX0_init (R : Room) : MI := (yX0_init, cX0_init, 1, none, R)
theorem mvX0_init (R : Room) : MV (mX0_init R) 0 := ⟨knX0, kcX0_init, (by decide +kernel : yX0_init.cls ≠ "java/lang/invoke/MethodHandle" ∧ yX0_init.cls ≠ "java/lang/invoke/VarHandle" ∧ (parseMethodDescriptor yX0_init.desc).map (fun d => d.parameters.length) = some 0)⟩
def mX5_init (R : Room) : MI := (yX5_init, cX5_init, 1, none, R)
theorem mvX5_init (R : Room) : MV (mX5_init R) 0 := ⟨knX5, kcX5_init, (by decide +kernel : yX5_init.cls ≠ "java/lang/invoke/MethodHandle" ∧ yX5_init.cls ≠ "java/lang/invoke/VarHandle" ∧ (parseMethodDescriptor yX5_init.desc).map (fun d => d.parameters.length) = some 0)⟩
def mX1_init (R : Room) : MI := (yX1_init, cX1_init, 1, none, R)
theorem mvX1_init (R : Room) : MV (mX1_init R) 0 := ⟨knX1, kcX1_init, (by decide +kernel : yX1_init.cls ≠ "java/lang/invoke/MethodHandle" ∧ yX1_init.cls ≠ "java/lang/invoke/VarHandle" ∧ (parseMethodDescriptor yX1_init.desc).map (fun d => d.parameters.length) = some 0)⟩
def mX4_init (R : Room) : MI := (yX4_init, cX4_init, 1, none, R)
theorem mvX4_init (R : Room) : MV (mX4_init R) 0 := ⟨knX4, kcX4_init, (by decide +kernel : yX4_init.cls ≠ "java/lang/invoke/MethodHandle" ∧ yX4_init.cls ≠ "java/lang/invoke/VarHandle" ∧ (parseMethodDescriptor yX4_init.desc).map (fun d => d.parameters.length) = some 0)⟩
def mX8_init (R : Room) : MI := (yX8_init, cX8_init, 1, none, R)
theorem mvX8_init (R : Room) : MV (mX8_init R) 0 := ⟨knX8, kcX8_init, (by decide +kernel : yX8_init.cls ≠ "java/lang/invoke/MethodHandle" ∧ yX8_init.cls ≠ "java/lang/invoke/VarHandle" ∧ (parseMethodDescriptor yX8_init.desc).map (fun d => d.parameters.length) = some 0)⟩
def mX6_init (R : Room) : MI := (yX6_init, cX6_init, 1, none, R)
theorem mvX6_init (R : Room) : MV (mX6_init R) 0 := ⟨knX6, kcX6_init, (by decide +kernel : yX6_init.cls ≠ "java/lang/invoke/MethodHandle" ∧ yX6_init.cls ≠ "java/lang/invoke/VarHandle" ∧ (parseMethodDescriptor yX6_init.desc).map (fun d => d.parameters.length) = some 0)⟩
def mX2_init (R : Room) : MI := (yX2_init, cX2_init, 1, none, R)
theorem mvX2_init (R : Room) : MV (mX2_init R) 0 := ⟨knX2, kcX2_init, (by decide +kernel : yX2_init.cls ≠ "java/lang/invoke/MethodHandle" ∧ yX2_init.cls ≠ "java/lang/invoke/VarHandle" ∧ (parseMethodDescriptor yX2_init.desc).map (fun d => d.parameters.length) = some 0)⟩
def mX9_init (R : Room) : MI := (yX9_init, cX9_init, 2, none, R)
theorem mvX9_init (R : Room) : MV (mX9_init R) 1 := ⟨knX9, kcX9_init, (by decide +kernel : yX9_init.cls ≠ "java/lang/invoke/MethodHandle" ∧ yX9_init.cls ≠ "java/lang/invoke/VarHandle" ∧ (parseMethodDescriptor yX9_init.desc).map (fun d => d.parameters.length) = some 1)⟩
def mX3_init (R : Room) : MI := (yX3_init, cX3_init, 2, none, R)
theorem mvX3_init (R : Room) : MV (mX3_init R) 1 := ⟨knX3, kcX3_init, (by decide +kernel : yX3_init.cls ≠ "java/lang/invoke/MethodHandle" ∧ yX3_init.cls ≠ "java/lang/invoke/VarHandle" ∧ (parseMethodDescriptor yX3_init.desc).map (fun d => d.parameters.length) = some 1)⟩
def mX7_init (R : Room) : MI := (yX7_init, cX7_init, 3, none, R)
theorem mvX7_init (R : Room) : MV (mX7_init R) 2 := ⟨knX7, kcX7_init, (by decide +kernel : yX7_init.cls ≠ "java/lang/invoke/MethodHandle" ∧ yX7_init.cls ≠ "java/lang/invoke/VarHandle" ∧ (parseMethodDescriptor yX7_init.desc).map (fun d => d.parameters.length) = some 2)⟩
def mX10_init (R : Room) : MI := (yX10_init, cX10_init, 5, none, R)
theorem mvX10_init (R : Room) : MV (mX10_init R) 2 := ⟨knX10, kcX10_init, (by decide +kernel : yX10_init.cls ≠ "java/lang/invoke/MethodHandle" ∧ yX10_init.cls ≠ "java/lang/invoke/VarHandle" ∧ (parseMethodDescriptor yX10_init.desc).map (fun d => d.parameters.length) = some 2)⟩
def mX10_shiftOf (R : Room) : MI := (yX10_shiftOf, cX10_shiftOf, 1, some (.int), R)
theorem mvX10_shiftOf (R : Room) : MV (mX10_shiftOf R) 1 := ⟨knX10, kcX10_shiftOf, (by decide +kernel : yX10_shiftOf.cls ≠ "java/lang/invoke/MethodHandle" ∧ yX10_shiftOf.cls ≠ "java/lang/invoke/VarHandle" ∧ (parseMethodDescriptor yX10_shiftOf.desc).map (fun d => d.parameters.length) = some 1)⟩
def mX11_name (R : Room) : MI := (yX11_name, cX11_name, 4, some (.int), R)
theorem mvX11_name (R : Room) : MV (mX11_name R) 2 := ⟨knX11, kcX11_name, (by decide +kernel : yX11_name.cls ≠ "java/lang/invoke/MethodHandle" ∧ yX11_name.cls ≠ "java/lang/invoke/VarHandle" ∧ (parseMethodDescriptor yX11_name.desc).map (fun d => d.parameters.length) = some 2)⟩
def mX5_add (R : Room) : MI := (yX5_add, cX5_add, 3, some (.int), R)
theorem mvX5_add (R : Room) : MV (mX5_add R) 2 := ⟨knX5, kcX5_add, (by decide +kernel : yX5_add.cls ≠ "java/lang/invoke/MethodHandle" ∧ yX5_add.cls ≠ "java/lang/invoke/VarHandle" ∧ (parseMethodDescriptor yX5_add.desc).map (fun d => d.parameters.length) = some 2)⟩
def mX10_forget (R : Room) : MI := (yX10_forget, cX10_forget, 1, none, R)
theorem mvX10_forget (R : Room) : MV (mX10_forget R) 0 := ⟨knX10, kcX10_forget, (by decide +kernel : yX10_forget.cls ≠ "java/lang/invoke/MethodHandle" ∧ yX10_forget.cls ≠ "java/lang/invoke/VarHandle" ∧ (parseMethodDescriptor yX10_forget.desc).map (fun d => d.parameters.length) = some 0)⟩
def mX11_couple (R : Room) : MI := (yX11_couple, cX11_couple, 6, some (.int), R)
theorem mvX11_couple (R : Room) : MV (mX11_couple R) 4 := ⟨knX11, kcX11_couple, (by decide +kernel : yX11_couple.cls ≠ "java/lang/invoke/MethodHandle" ∧ yX11_couple.cls ≠ "java/lang/invoke/VarHandle" ∧ (parseMethodDescriptor yX11_couple.desc).map (fun d => d.parameters.length) = some 4)⟩
def mX5_has (R : Room) : MI := (yX5_has, cX5_has, 3, some (.boolean), R)
theorem mvX5_has (R : Room) : MV (mX5_has R) 2 := ⟨knX5, kcX5_has, (by decide +kernel : yX5_has.cls ≠ "java/lang/invoke/MethodHandle" ∧ yX5_has.cls ≠ "java/lang/invoke/VarHandle" ∧ (parseMethodDescriptor yX5_has.desc).map (fun d => d.parameters.length) = some 2)⟩
def mX1_add (R : Room) : MI := (yX1_add, cX1_add, 6, some (.int), R)
theorem mvX1_add (R : Room) : MV (mX1_add R) 4 := ⟨knX1, kcX1_add, (by decide +kernel : yX1_add.cls ≠ "java/lang/invoke/MethodHandle" ∧ yX1_add.cls ≠ "java/lang/invoke/VarHandle" ∧ (parseMethodDescriptor yX1_add.desc).map (fun d => d.parameters.length) = some 4)⟩
def mX11_parent (R : Room) : MI := (yX11_parent, cX11_parent, 4, some (.boolean), R)
theorem mvX11_parent (R : Room) : MV (mX11_parent R) 3 := ⟨knX11, kcX11_parent, (by decide +kernel : yX11_parent.cls ≠ "java/lang/invoke/MethodHandle" ∧ yX11_parent.cls ≠ "java/lang/invoke/VarHandle" ∧ (parseMethodDescriptor yX11_parent.desc).map (fun d => d.parameters.length) = some 3)⟩
def mX1_has (R : Room) : MI := (yX1_has, cX1_has, 2, some (.boolean), R)
theorem mvX1_has (R : Room) : MV (mX1_has R) 1 := ⟨knX1, kcX1_has, (by decide +kernel : yX1_has.cls ≠ "java/lang/invoke/MethodHandle" ∧ yX1_has.cls ≠ "java/lang/invoke/VarHandle" ∧ (parseMethodDescriptor yX1_has.desc).map (fun d => d.parameters.length) = some 1)⟩
def mX1_tellParent (R : Room) : MI := (yX1_tellParent, cX1_tellParent, 4, none, R)
theorem mvX1_tellParent (R : Room) : MV (mX1_tellParent R) 3 := ⟨knX1, kcX1_tellParent, (by decide +kernel : yX1_tellParent.cls ≠ "java/lang/invoke/MethodHandle" ∧ yX1_tellParent.cls ≠ "java/lang/invoke/VarHandle" ∧ (parseMethodDescriptor yX1_tellParent.desc).map (fun d => d.parameters.length) = some 3)⟩
def mX11_christening (R : Room) : MI := (yX11_christening, cX11_christening, 8, some (.int), R)
theorem mvX11_christening (R : Room) : MV (mX11_christening R) 5 := ⟨knX11, kcX11_christening, (by decide +kernel : yX11_christening.cls ≠ "java/lang/invoke/MethodHandle" ∧ yX11_christening.cls ≠ "java/lang/invoke/VarHandle" ∧ (parseMethodDescriptor yX11_christening.desc).map (fun d => d.parameters.length) = some 5)⟩
def mX4_add (R : Room) : MI := (yX4_add, cX4_add, 6, some (.int), R)
theorem mvX4_add (R : Room) : MV (mX4_add R) 5 := ⟨knX4, kcX4_add, (by decide +kernel : yX4_add.cls ≠ "java/lang/invoke/MethodHandle" ∧ yX4_add.cls ≠ "java/lang/invoke/VarHandle" ∧ (parseMethodDescriptor yX4_add.desc).map (fun d => d.parameters.length) = some 5)⟩
def mX4_putInOrder (R : Room) : MI := (yX4_putInOrder, cX4_putInOrder, 3, none, R)
theorem mvX4_putInOrder (R : Room) : MV (mX4_putInOrder R) 1 := ⟨knX4, kcX4_putInOrder, (by decide +kernel : yX4_putInOrder.cls ≠ "java/lang/invoke/MethodHandle" ∧ yX4_putInOrder.cls ≠ "java/lang/invoke/VarHandle" ∧ (parseMethodDescriptor yX4_putInOrder.desc).map (fun d => d.parameters.length) = some 1)⟩
def mX11_died (R : Room) : MI := (yX11_died, cX11_died, 3, some (.boolean), R)
theorem mvX11_died (R : Room) : MV (mX11_died R) 2 := ⟨knX11, kcX11_died, (by decide +kernel : yX11_died.cls ≠ "java/lang/invoke/MethodHandle" ∧ yX11_died.cls ≠ "java/lang/invoke/VarHandle" ∧ (parseMethodDescriptor yX11_died.desc).map (fun d => d.parameters.length) = some 2)⟩
def mX4_has (R : Room) : MI := (yX4_has, cX4_has, 2, some (.boolean), R)
theorem mvX4_has (R : Room) : MV (mX4_has R) 1 := ⟨knX4, kcX4_has, (by decide +kernel : yX4_has.cls ≠ "java/lang/invoke/MethodHandle" ∧ yX4_has.cls ≠ "java/lang/invoke/VarHandle" ∧ (parseMethodDescriptor yX4_has.desc).map (fun d => d.parameters.length) = some 1)⟩
def mX11_weighs (R : Room) : MI := (yX11_weighs, cX11_weighs, 3, some (.boolean), R)
theorem mvX11_weighs (R : Room) : MV (mX11_weighs R) 2 := ⟨knX11, kcX11_weighs, (by decide +kernel : yX11_weighs.cls ≠ "java/lang/invoke/MethodHandle" ∧ yX11_weighs.cls ≠ "java/lang/invoke/VarHandle" ∧ (parseMethodDescriptor yX11_weighs.desc).map (fun d => d.parameters.length) = some 2)⟩
def mX11_feed (R : Room) : MI := (yX11_feed, cX11_feed, 6, some (.int), R)
theorem mvX11_feed (R : Room) : MV (mX11_feed R) 5 := ⟨knX11, kcX11_feed, (by decide +kernel : yX11_feed.cls ≠ "java/lang/invoke/MethodHandle" ∧ yX11_feed.cls ≠ "java/lang/invoke/VarHandle" ∧ (parseMethodDescriptor yX11_feed.desc).map (fun d => d.parameters.length) = some 5)⟩
def mX8_hasRoom (R : Room) : MI := (yX8_hasRoom, cX8_hasRoom, 1, some (.boolean), R)
theorem mvX8_hasRoom (R : Room) : MV (mX8_hasRoom R) 0 := ⟨knX8, kcX8_hasRoom, (by decide +kernel : yX8_hasRoom.cls ≠ "java/lang/invoke/MethodHandle" ∧ yX8_hasRoom.cls ≠ "java/lang/invoke/VarHandle" ∧ (parseMethodDescriptor yX8_hasRoom.desc).map (fun d => d.parameters.length) = some 0)⟩
def mX8_append (R : Room) : MI := (yX8_append, cX8_append, 3, none, R)
theorem mvX8_append (R : Room) : MV (mX8_append R) 1 := ⟨knX8, kcX8_append, (by decide +kernel : yX8_append.cls ≠ "java/lang/invoke/MethodHandle" ∧ yX8_append.cls ≠ "java/lang/invoke/VarHandle" ∧ (parseMethodDescriptor yX8_append.desc).map (fun d => d.parameters.length) = some 1)⟩
def mX11_custom (R : Room) : MI := (yX11_custom, cX11_custom, 4, some (.int), R)
theorem mvX11_custom (R : Room) : MV (mX11_custom R) 2 := ⟨knX11, kcX11_custom, (by decide +kernel : yX11_custom.cls ≠ "java/lang/invoke/MethodHandle" ∧ yX11_custom.cls ≠ "java/lang/invoke/VarHandle" ∧ (parseMethodDescriptor yX11_custom.desc).map (fun d => d.parameters.length) = some 2)⟩
def mX6_read (R : Room) : MI := (yX6_read, cX6_read, 5, some (.int), R)
theorem mvX6_read (R : Room) : MV (mX6_read R) 2 := ⟨knX6, kcX6_read, (by decide +kernel : yX6_read.cls ≠ "java/lang/invoke/MethodHandle" ∧ yX6_read.cls ≠ "java/lang/invoke/VarHandle" ∧ (parseMethodDescriptor yX6_read.desc).map (fun d => d.parameters.length) = some 2)⟩
def mX8_at (R : Room) : MI := (yX8_at, cX8_at, 2, some (.int), R)
theorem mvX8_at (R : Room) : MV (mX8_at R) 1 := ⟨knX8, kcX8_at, (by decide +kernel : yX8_at.cls ≠ "java/lang/invoke/MethodHandle" ∧ yX8_at.cls ≠ "java/lang/invoke/VarHandle" ∧ (parseMethodDescriptor yX8_at.desc).map (fun d => d.parameters.length) = some 1)⟩
def mX2_clear (R : Room) : MI := (yX2_clear, cX2_clear, 1, none, R)
theorem mvX2_clear (R : Room) : MV (mX2_clear R) 0 := ⟨knX2, kcX2_clear, (by decide +kernel : yX2_clear.cls ≠ "java/lang/invoke/MethodHandle" ∧ yX2_clear.cls ≠ "java/lang/invoke/VarHandle" ∧ (parseMethodDescriptor yX2_clear.desc).map (fun d => d.parameters.length) = some 0)⟩
def mX6_clause (R : Room) : MI := (yX6_clause, cX6_clause, 2, some (.boolean), R)
theorem mvX6_clause (R : Room) : MV (mX6_clause R) 0 := ⟨knX6, kcX6_clause, (by decide +kernel : yX6_clause.cls ≠ "java/lang/invoke/MethodHandle" ∧ yX6_clause.cls ≠ "java/lang/invoke/VarHandle" ∧ (parseMethodDescriptor yX6_clause.desc).map (fun d => d.parameters.length) = some 0)⟩
def mX6_peek (R : Room) : MI := (yX6_peek, cX6_peek, 1, some (.char), R)
theorem mvX6_peek (R : Room) : MV (mX6_peek R) 0 := ⟨knX6, kcX6_peek, (by decide +kernel : yX6_peek.cls ≠ "java/lang/invoke/MethodHandle" ∧ yX6_peek.cls ≠ "java/lang/invoke/VarHandle" ∧ (parseMethodDescriptor yX6_peek.desc).map (fun d => d.parameters.length) = some 0)⟩
def mX6_refuse (R : Room) : MI := (yX6_refuse, cX6_refuse, 2, some (.boolean), R)
theorem mvX6_refuse (R : Room) : MV (mX6_refuse R) 1 := ⟨knX6, kcX6_refuse, (by decide +kernel : yX6_refuse.cls ≠ "java/lang/invoke/MethodHandle" ∧ yX6_refuse.cls ≠ "java/lang/invoke/VarHandle" ∧ (parseMethodDescriptor yX6_refuse.desc).map (fun d => d.parameters.length) = some 1)⟩
def mX6_take (R : Room) : MI := (yX6_take, cX6_take, 2, some (.boolean), R)
theorem mvX6_take (R : Room) : MV (mX6_take R) 1 := ⟨knX6, kcX6_take, (by decide +kernel : yX6_take.cls ≠ "java/lang/invoke/MethodHandle" ∧ yX6_take.cls ≠ "java/lang/invoke/VarHandle" ∧ (parseMethodDescriptor yX6_take.desc).map (fun d => d.parameters.length) = some 1)⟩
def mX6_chain (R : Room) : MI := (yX6_chain, cX6_chain, 8, some (.boolean), R)
theorem mvX6_chain (R : Room) : MV (mX6_chain R) 2 := ⟨knX6, kcX6_chain, (by decide +kernel : yX6_chain.cls ≠ "java/lang/invoke/MethodHandle" ∧ yX6_chain.cls ≠ "java/lang/invoke/VarHandle" ∧ (parseMethodDescriptor yX6_chain.desc).map (fun d => d.parameters.length) = some 2)⟩
def mX6_operand (R : Room) : MI := (yX6_operand, cX6_operand, 3, some (.boolean), R)
theorem mvX6_operand (R : Room) : MV (mX6_operand R) 2 := ⟨knX6, kcX6_operand, (by decide +kernel : yX6_operand.cls ≠ "java/lang/invoke/MethodHandle" ∧ yX6_operand.cls ≠ "java/lang/invoke/VarHandle" ∧ (parseMethodDescriptor yX6_operand.desc).map (fun d => d.parameters.length) = some 2)⟩
def mX6_piece (R : Room) : MI := (yX6_piece, cX6_piece, 3, some (.boolean), R)
theorem mvX6_piece (R : Room) : MV (mX6_piece R) 1 := ⟨knX6, kcX6_piece, (by decide +kernel : yX6_piece.cls ≠ "java/lang/invoke/MethodHandle" ∧ yX6_piece.cls ≠ "java/lang/invoke/VarHandle" ∧ (parseMethodDescriptor yX6_piece.desc).map (fun d => d.parameters.length) = some 1)⟩
def mX6_comparison (R : Room) : MI := (yX6_comparison, cX6_comparison, 3, some (.boolean), R)
theorem mvX6_comparison (R : Room) : MV (mX6_comparison R) 1 := ⟨knX6, kcX6_comparison, (by decide +kernel : yX6_comparison.cls ≠ "java/lang/invoke/MethodHandle" ∧ yX6_comparison.cls ≠ "java/lang/invoke/VarHandle" ∧ (parseMethodDescriptor yX6_comparison.desc).map (fun d => d.parameters.length) = some 1)⟩
def mX2_addStep (R : Room) : MI := (yX2_addStep, cX2_addStep, 3, some (.int), R)
theorem mvX2_addStep (R : Room) : MV (mX2_addStep R) 2 := ⟨knX2, kcX2_addStep, (by decide +kernel : yX2_addStep.cls ≠ "java/lang/invoke/MethodHandle" ∧ yX2_addStep.cls ≠ "java/lang/invoke/VarHandle" ∧ (parseMethodDescriptor yX2_addStep.desc).map (fun d => d.parameters.length) = some 2)⟩
def mX6_factor (R : Room) : MI := (yX6_factor, cX6_factor, 4, some (.boolean), R)
theorem mvX6_factor (R : Room) : MV (mX6_factor R) 1 := ⟨knX6, kcX6_factor, (by decide +kernel : yX6_factor.cls ≠ "java/lang/invoke/MethodHandle" ∧ yX6_factor.cls ≠ "java/lang/invoke/VarHandle" ∧ (parseMethodDescriptor yX6_factor.desc).map (fun d => d.parameters.length) = some 1)⟩
def mX6_isDigit (R : Room) : MI := (yX6_isDigit, cX6_isDigit, 1, some (.boolean), R)
theorem mvX6_isDigit (R : Room) : MV (mX6_isDigit R) 1 := ⟨knX6, kcX6_isDigit, (by decide +kernel : yX6_isDigit.cls ≠ "java/lang/invoke/MethodHandle" ∧ yX6_isDigit.cls ≠ "java/lang/invoke/VarHandle" ∧ (parseMethodDescriptor yX6_isDigit.desc).map (fun d => d.parameters.length) = some 1)⟩
def mX6_number (R : Room) : MI := (yX6_number, cX6_number, 3, some (.boolean), R)
theorem mvX6_number (R : Room) : MV (mX6_number R) 0 := ⟨knX6, kcX6_number, (by decide +kernel : yX6_number.cls ≠ "java/lang/invoke/MethodHandle" ∧ yX6_number.cls ≠ "java/lang/invoke/VarHandle" ∧ (parseMethodDescriptor yX6_number.desc).map (fun d => d.parameters.length) = some 0)⟩
def mX6_signsOf (R : Room) : MI := (yX6_signsOf, cX6_signsOf, 1, some ((.object "java/lang/String")), R)
theorem mvX6_signsOf (R : Room) : MV (mX6_signsOf R) 1 := ⟨knX6, kcX6_signsOf, (by decide +kernel : yX6_signsOf.cls ≠ "java/lang/invoke/MethodHandle" ∧ yX6_signsOf.cls ≠ "java/lang/invoke/VarHandle" ∧ (parseMethodDescriptor yX6_signsOf.desc).map (fun d => d.parameters.length) = some 1)⟩
def mX2_leadHere (R : Room) : MI := (yX2_leadHere, cX2_leadHere, 2, none, R)
theorem mvX2_leadHere (R : Room) : MV (mX2_leadHere R) 1 := ⟨knX2, kcX2_leadHere, (by decide +kernel : yX2_leadHere.cls ≠ "java/lang/invoke/MethodHandle" ∧ yX2_leadHere.cls ≠ "java/lang/invoke/VarHandle" ∧ (parseMethodDescriptor yX2_leadHere.desc).map (fun d => d.parameters.length) = some 1)⟩
def mX2_endClause (R : Room) : MI := (yX2_endClause, cX2_endClause, 2, none, R)
theorem mvX2_endClause (R : Room) : MV (mX2_endClause R) 1 := ⟨knX2, kcX2_endClause, (by decide +kernel : yX2_endClause.cls ≠ "java/lang/invoke/MethodHandle" ∧ yX2_endClause.cls ≠ "java/lang/invoke/VarHandle" ∧ (parseMethodDescriptor yX2_endClause.desc).map (fun d => d.parameters.length) = some 1)⟩
def mX8_clear (R : Room) : MI := (yX8_clear, cX8_clear, 1, none, R)
theorem mvX8_clear (R : Room) : MV (mX8_clear R) 0 := ⟨knX8, kcX8_clear, (by decide +kernel : yX8_clear.cls ≠ "java/lang/invoke/MethodHandle" ∧ yX8_clear.cls ≠ "java/lang/invoke/VarHandle" ∧ (parseMethodDescriptor yX8_clear.desc).map (fun d => d.parameters.length) = some 0)⟩
def mX6_exchange (R : Room) : MI := (yX6_exchange, cX6_exchange, 3, some ((.object "FontList$Custom")), R)
theorem mvX6_exchange (R : Room) : MV (mX6_exchange R) 1 := ⟨knX6, kcX6_exchange, (by decide +kernel : yX6_exchange.cls ≠ "java/lang/invoke/MethodHandle" ∧ yX6_exchange.cls ≠ "java/lang/invoke/VarHandle" ∧ (parseMethodDescriptor yX6_exchange.desc).map (fun d => d.parameters.length) = some 1)⟩
def mX9_clausesOf (R : Room) : MI := (yX9_clausesOf, cX9_clausesOf, 2, some (.int), R)
theorem mvX9_clausesOf (R : Room) : MV (mX9_clausesOf R) 1 := ⟨knX9, kcX9_clausesOf, (by decide +kernel : yX9_clausesOf.cls ≠ "java/lang/invoke/MethodHandle" ∧ yX9_clausesOf.cls ≠ "java/lang/invoke/VarHandle" ∧ (parseMethodDescriptor yX9_clausesOf.desc).map (fun d => d.parameters.length) = some 1)⟩
def mX11_customs (R : Room) : MI := (yX11_customs, cX11_customs, 4, some (.boolean), R)
theorem mvX11_customs (R : Room) : MV (mX11_customs R) 3 := ⟨knX11, kcX11_customs, (by decide +kernel : yX11_customs.cls ≠ "java/lang/invoke/MethodHandle" ∧ yX11_customs.cls ≠ "java/lang/invoke/VarHandle" ∧ (parseMethodDescriptor yX11_customs.desc).map (fun d => d.parameters.length) = some 3)⟩
def mX9_tell (R : Room) : MI := (yX9_tell, cX9_tell, 4, none, R)
theorem mvX9_tell (R : Room) : MV (mX9_tell R) 3 := ⟨knX9, kcX9_tell, (by decide +kernel : yX9_tell.cls ≠ "java/lang/invoke/MethodHandle" ∧ yX9_tell.cls ≠ "java/lang/invoke/VarHandle" ∧ (parseMethodDescriptor yX9_tell.desc).map (fun d => d.parameters.length) = some 3)⟩
def mX11_tie (R : Room) : MI := (yX11_tie, cX11_tie, 3, some (.int), R)
theorem mvX11_tie (R : Room) : MV (mX11_tie R) 2 := ⟨knX11, kcX11_tie, (by decide +kernel : yX11_tie.cls ≠ "java/lang/invoke/MethodHandle" ∧ yX11_tie.cls ≠ "java/lang/invoke/VarHandle" ∧ (parseMethodDescriptor yX11_tie.desc).map (fun d => d.parameters.length) = some 2)⟩
def mX0_canTie (R : Room) : MI := (yX0_canTie, cX0_canTie, 3, some (.boolean), R)
theorem mvX0_canTie (R : Room) : MV (mX0_canTie R) 2 := ⟨knX0, kcX0_canTie, (by decide +kernel : yX0_canTie.cls ≠ "java/lang/invoke/MethodHandle" ∧ yX0_canTie.cls ≠ "java/lang/invoke/VarHandle" ∧ (parseMethodDescriptor yX0_canTie.desc).map (fun d => d.parameters.length) = some 2)⟩
def mX11_family (R : Room) : MI := (yX11_family, cX11_family, 3, some (.int), R)
theorem mvX11_family (R : Room) : MV (mX11_family R) 2 := ⟨knX11, kcX11_family, (by decide +kernel : yX11_family.cls ≠ "java/lang/invoke/MethodHandle" ∧ yX11_family.cls ≠ "java/lang/invoke/VarHandle" ∧ (parseMethodDescriptor yX11_family.desc).map (fun d => d.parameters.length) = some 2)⟩
def mX0_knows (R : Room) : MI := (yX0_knows, cX0_knows, 3, some (.boolean), R)
theorem mvX0_knows (R : Room) : MV (mX0_knows R) 2 := ⟨knX0, kcX0_knows, (by decide +kernel : yX0_knows.cls ≠ "java/lang/invoke/MethodHandle" ∧ yX0_knows.cls ≠ "java/lang/invoke/VarHandle" ∧ (parseMethodDescriptor yX0_knows.desc).map (fun d => d.parameters.length) = some 2)⟩
def mX3_gather (R : Room) : MI := (yX3_gather, cX3_gather, 5, some (.boolean), R)
theorem mvX3_gather (R : Room) : MV (mX3_gather R) 2 := ⟨knX3, kcX3_gather, (by decide +kernel : yX3_gather.cls ≠ "java/lang/invoke/MethodHandle" ∧ yX3_gather.cls ≠ "java/lang/invoke/VarHandle" ∧ (parseMethodDescriptor yX3_gather.desc).map (fun d => d.parameters.length) = some 2)⟩
def mX3_fitsElders (R : Room) : MI := (yX3_fitsElders, cX3_fitsElders, 7, some (.boolean), R)
theorem mvX3_fitsElders (R : Room) : MV (mX3_fitsElders R) 1 := ⟨knX3, kcX3_fitsElders, (by decide +kernel : yX3_fitsElders.cls ≠ "java/lang/invoke/MethodHandle" ∧ yX3_fitsElders.cls ≠ "java/lang/invoke/VarHandle" ∧ (parseMethodDescriptor yX3_fitsElders.desc).map (fun d => d.parameters.length) = some 1)⟩
def mX4_goneBy (R : Room) : MI := (yX4_goneBy, cX4_goneBy, 3, some (.boolean), R)
theorem mvX4_goneBy (R : Room) : MV (mX4_goneBy R) 2 := ⟨knX4, kcX4_goneBy, (by decide +kernel : yX4_goneBy.cls ≠ "java/lang/invoke/MethodHandle" ∧ yX4_goneBy.cls ≠ "java/lang/invoke/VarHandle" ∧ (parseMethodDescriptor yX4_goneBy.desc).map (fun d => d.parameters.length) = some 2)⟩
def mX11_points (R : Room) : MI := (yX11_points, cX11_points, 3, some (.int), R)
theorem mvX11_points (R : Room) : MV (mX11_points R) 2 := ⟨knX11, kcX11_points, (by decide +kernel : yX11_points.cls ≠ "java/lang/invoke/MethodHandle" ∧ yX11_points.cls ≠ "java/lang/invoke/VarHandle" ∧ (parseMethodDescriptor yX11_points.desc).map (fun d => d.parameters.length) = some 2)⟩
def mX3_worth (R : Room) : MI := (yX3_worth, cX3_worth, 6, some (.int), R)
theorem mvX3_worth (R : Room) : MV (mX3_worth R) 3 := ⟨knX3, kcX3_worth, (by decide +kernel : yX3_worth.cls ≠ "java/lang/invoke/MethodHandle" ∧ yX3_worth.cls ≠ "java/lang/invoke/VarHandle" ∧ (parseMethodDescriptor yX3_worth.desc).map (fun d => d.parameters.length) = some 3)⟩
def mX3_ask (R : Room) : MI := (yX3_ask, cX3_ask, 5, none, R)
theorem mvX3_ask (R : Room) : MV (mX3_ask R) 1 := ⟨knX3, kcX3_ask, (by decide +kernel : yX3_ask.cls ≠ "java/lang/invoke/MethodHandle" ∧ yX3_ask.cls ≠ "java/lang/invoke/VarHandle" ∧ (parseMethodDescriptor yX3_ask.desc).map (fun d => d.parameters.length) = some 1)⟩
def mX3_observe (R : Room) : MI := (yX3_observe, cX3_observe, 11, some (.int), R)
theorem mvX3_observe (R : Room) : MV (mX3_observe R) 1 := ⟨knX3, kcX3_observe, (by decide +kernel : yX3_observe.cls ≠ "java/lang/invoke/MethodHandle" ∧ yX3_observe.cls ≠ "java/lang/invoke/VarHandle" ∧ (parseMethodDescriptor yX3_observe.desc).map (fun d => d.parameters.length) = some 1)⟩
def mX3_sexAt (R : Room) : MI := (yX3_sexAt, cX3_sexAt, 2, some (.int), R)
theorem mvX3_sexAt (R : Room) : MV (mX3_sexAt R) 1 := ⟨knX3, kcX3_sexAt, (by decide +kernel : yX3_sexAt.cls ≠ "java/lang/invoke/MethodHandle" ∧ yX3_sexAt.cls ≠ "java/lang/invoke/VarHandle" ∧ (parseMethodDescriptor yX3_sexAt.desc).map (fun d => d.parameters.length) = some 1)⟩
def mX3_isTwin (R : Room) : MI := (yX3_isTwin, cX3_isTwin, 3, some (.boolean), R)
theorem mvX3_isTwin (R : Room) : MV (mX3_isTwin R) 1 := ⟨knX3, kcX3_isTwin, (by decide +kernel : yX3_isTwin.cls ≠ "java/lang/invoke/MethodHandle" ∧ yX3_isTwin.cls ≠ "java/lang/invoke/VarHandle" ∧ (parseMethodDescriptor yX3_isTwin.desc).map (fun d => d.parameters.length) = some 1)⟩
def mX9_inYear (R : Room) : MI := (yX9_inYear, cX9_inYear, 3, some ((.object "FontList$Custom")), R)
theorem mvX9_inYear (R : Room) : MV (mX9_inYear R) 1 := ⟨knX9, kcX9_inYear, (by decide +kernel : yX9_inYear.cls ≠ "java/lang/invoke/MethodHandle" ∧ yX9_inYear.cls ≠ "java/lang/invoke/VarHandle" ∧ (parseMethodDescriptor yX9_inYear.desc).map (fun d => d.parameters.length) = some 1)⟩
def mX9_isTold (R : Room) : MI := (yX9_isTold, cX9_isTold, 2, some (.boolean), R)
theorem mvX9_isTold (R : Room) : MV (mX9_isTold R) 1 := ⟨knX9, kcX9_isTold, (by decide +kernel : yX9_isTold.cls ≠ "java/lang/invoke/MethodHandle" ∧ yX9_isTold.cls ≠ "java/lang/invoke/VarHandle" ∧ (parseMethodDescriptor yX9_isTold.desc).map (fun d => d.parameters.length) = some 1)⟩
def mX2_firstFor (R : Room) : MI := (yX2_firstFor, cX2_firstFor, 5, some (.int), R)
theorem mvX2_firstFor (R : Room) : MV (mX2_firstFor R) 2 := ⟨knX2, kcX2_firstFor, (by decide +kernel : yX2_firstFor.cls ≠ "java/lang/invoke/MethodHandle" ∧ yX2_firstFor.cls ≠ "java/lang/invoke/VarHandle" ∧ (parseMethodDescriptor yX2_firstFor.desc).map (fun d => d.parameters.length) = some 2)⟩
def mX2_holds (R : Room) : MI := (yX2_holds, cX2_holds, 8, some (.boolean), R)
theorem mvX2_holds (R : Room) : MV (mX2_holds R) 3 := ⟨knX2, kcX2_holds, (by decide +kernel : yX2_holds.cls ≠ "java/lang/invoke/MethodHandle" ∧ yX2_holds.cls ≠ "java/lang/invoke/VarHandle" ∧ (parseMethodDescriptor yX2_holds.desc).map (fun d => d.parameters.length) = some 3)⟩
def mX2_factAt (R : Room) : MI := (yX2_factAt, cX2_factAt, 2, some (.int), R)
theorem mvX2_factAt (R : Room) : MV (mX2_factAt R) 2 := ⟨knX2, kcX2_factAt, (by decide +kernel : yX2_factAt.cls ≠ "java/lang/invoke/MethodHandle" ∧ yX2_factAt.cls ≠ "java/lang/invoke/VarHandle" ∧ (parseMethodDescriptor yX2_factAt.desc).map (fun d => d.parameters.length) = some 2)⟩
def mX2_reckon (R : Room) : MI := (yX2_reckon, cX2_reckon, 3, some (.int), R)
theorem mvX2_reckon (R : Room) : MV (mX2_reckon R) 3 := ⟨knX2, kcX2_reckon, (by decide +kernel : yX2_reckon.cls ≠ "java/lang/invoke/MethodHandle" ∧ yX2_reckon.cls ≠ "java/lang/invoke/VarHandle" ∧ (parseMethodDescriptor yX2_reckon.desc).map (fun d => d.parameters.length) = some 3)⟩
def mX1_parentOf (R : Room) : MI := (yX1_parentOf, cX1_parentOf, 3, some (.int), R)
theorem mvX1_parentOf (R : Room) : MV (mX1_parentOf R) 2 := ⟨knX1, kcX1_parentOf, (by decide +kernel : yX1_parentOf.cls ≠ "java/lang/invoke/MethodHandle" ∧ yX1_parentOf.cls ≠ "java/lang/invoke/VarHandle" ∧ (parseMethodDescriptor yX1_parentOf.desc).map (fun d => d.parameters.length) = some 2)⟩
def mX3_namesFor (R : Room) : MI := (yX3_namesFor, cX3_namesFor, 7, some (.int), R)
theorem mvX3_namesFor (R : Room) : MV (mX3_namesFor R) 1 := ⟨knX3, kcX3_namesFor, (by decide +kernel : yX3_namesFor.cls ≠ "java/lang/invoke/MethodHandle" ∧ yX3_namesFor.cls ≠ "java/lang/invoke/VarHandle" ∧ (parseMethodDescriptor yX3_namesFor.desc).map (fun d => d.parameters.length) = some 1)⟩
def mX3_gainOfAll (R : Room) : MI := (yX3_gainOfAll, cX3_gainOfAll, 5, some (.int), R)
theorem mvX3_gainOfAll (R : Room) : MV (mX3_gainOfAll R) 2 := ⟨knX3, kcX3_gainOfAll, (by decide +kernel : yX3_gainOfAll.cls ≠ "java/lang/invoke/MethodHandle" ∧ yX3_gainOfAll.cls ≠ "java/lang/invoke/VarHandle" ∧ (parseMethodDescriptor yX3_gainOfAll.desc).map (fun d => d.parameters.length) = some 2)⟩
def mX3_gain (R : Room) : MI := (yX3_gain, cX3_gain, 4, some (.int), R)
theorem mvX3_gain (R : Room) : MV (mX3_gain R) 2 := ⟨knX3, kcX3_gain, (by decide +kernel : yX3_gain.cls ≠ "java/lang/invoke/MethodHandle" ∧ yX3_gain.cls ≠ "java/lang/invoke/VarHandle" ∧ (parseMethodDescriptor yX3_gain.desc).map (fun d => d.parameters.length) = some 2)⟩
def mX3_lowest (R : Room) : MI := (yX3_lowest, cX3_lowest, 2, some (.int), R)
theorem mvX3_lowest (R : Room) : MV (mX3_lowest R) 1 := ⟨knX3, kcX3_lowest, (by decide +kernel : yX3_lowest.cls ≠ "java/lang/invoke/MethodHandle" ∧ yX3_lowest.cls ≠ "java/lang/invoke/VarHandle" ∧ (parseMethodDescriptor yX3_lowest.desc).map (fun d => d.parameters.length) = some 1)⟩
def mX3_due (R : Room) : MI := (yX3_due, cX3_due, 3, some (.int), R)
theorem mvX3_due (R : Room) : MV (mX3_due R) 1 := ⟨knX3, kcX3_due, (by decide +kernel : yX3_due.cls ≠ "java/lang/invoke/MethodHandle" ∧ yX3_due.cls ≠ "java/lang/invoke/VarHandle" ∧ (parseMethodDescriptor yX3_due.desc).map (fun d => d.parameters.length) = some 1)⟩
def mX3_letterAt (R : Room) : MI := (yX3_letterAt, cX3_letterAt, 2, some (.int), R)
theorem mvX3_letterAt (R : Room) : MV (mX3_letterAt R) 1 := ⟨knX3, kcX3_letterAt, (by decide +kernel : yX3_letterAt.cls ≠ "java/lang/invoke/MethodHandle" ∧ yX3_letterAt.cls ≠ "java/lang/invoke/VarHandle" ∧ (parseMethodDescriptor yX3_letterAt.desc).map (fun d => d.parameters.length) = some 1)⟩
def mX11_by (R : Room) : MI := (yX11_by, cX11_by, 6, some (.int), R)
theorem mvX11_by (R : Room) : MV (mX11_by R) 3 := ⟨knX11, kcX11_by, (by decide +kernel : yX11_by.cls ≠ "java/lang/invoke/MethodHandle" ∧ yX11_by.cls ≠ "java/lang/invoke/VarHandle" ∧ (parseMethodDescriptor yX11_by.desc).map (fun d => d.parameters.length) = some 3)⟩
def mX11_placeAsked (R : Room) : MI := (yX11_placeAsked, cX11_placeAsked, 4, some (.int), R)
theorem mvX11_placeAsked (R : Room) : MV (mX11_placeAsked R) 3 := ⟨knX11, kcX11_placeAsked, (by decide +kernel : yX11_placeAsked.cls ≠ "java/lang/invoke/MethodHandle" ∧ yX11_placeAsked.cls ≠ "java/lang/invoke/VarHandle" ∧ (parseMethodDescriptor yX11_placeAsked.desc).map (fun d => d.parameters.length) = some 3)⟩
def mX3_placeOf (R : Room) : MI := (yX3_placeOf, cX3_placeOf, 3, some (.int), R)
theorem mvX3_placeOf (R : Room) : MV (mX3_placeOf R) 1 := ⟨knX3, kcX3_placeOf, (by decide +kernel : yX3_placeOf.cls ≠ "java/lang/invoke/MethodHandle" ∧ yX3_placeOf.cls ≠ "java/lang/invoke/VarHandle" ∧ (parseMethodDescriptor yX3_placeOf.desc).map (fun d => d.parameters.length) = some 1)⟩
def mX11_should (R : Room) : MI := (yX11_should, cX11_should, 5, some (.int), R)
theorem mvX11_should (R : Room) : MV (mX11_should R) 3 := ⟨knX11, kcX11_should, (by decide +kernel : yX11_should.cls ≠ "java/lang/invoke/MethodHandle" ∧ yX11_should.cls ≠ "java/lang/invoke/VarHandle" ∧ (parseMethodDescriptor yX11_should.desc).map (fun d => d.parameters.length) = some 3)⟩
def mX11_best (R : Room) : MI := (yX11_best, cX11_best, 2, some (.int), R)
theorem mvX11_best (R : Room) : MV (mX11_best R) 1 := ⟨knX11, kcX11_best, (by decide +kernel : yX11_best.cls ≠ "java/lang/invoke/MethodHandle" ∧ yX11_best.cls ≠ "java/lang/invoke/VarHandle" ∧ (parseMethodDescriptor yX11_best.desc).map (fun d => d.parameters.length) = some 1)⟩
def mX10_settle (R : Room) : MI := (yX10_settle, cX10_settle, 6, none, R)
theorem mvX10_settle (R : Room) : MV (mX10_settle R) 1 := ⟨knX10, kcX10_settle, (by decide +kernel : yX10_settle.cls ≠ "java/lang/invoke/MethodHandle" ∧ yX10_settle.cls ≠ "java/lang/invoke/VarHandle" ∧ (parseMethodDescriptor yX10_settle.desc).map (fun d => d.parameters.length) = some 1)⟩
def mX10_whole (R : Room) : MI := (yX10_whole, cX10_whole, 1, some (.int), R)
theorem mvX10_whole (R : Room) : MV (mX10_whole R) 0 := ⟨knX10, kcX10_whole, (by decide +kernel : yX10_whole.cls ≠ "java/lang/invoke/MethodHandle" ∧ yX10_whole.cls ≠ "java/lang/invoke/VarHandle" ∧ (parseMethodDescriptor yX10_whole.desc).map (fun d => d.parameters.length) = some 0)⟩
def mX10_startEmpty (R : Room) : MI := (yX10_startEmpty, cX10_startEmpty, 3, none, R)
theorem mvX10_startEmpty (R : Room) : MV (mX10_startEmpty R) 1 := ⟨knX10, kcX10_startEmpty, (by decide +kernel : yX10_startEmpty.cls ≠ "java/lang/invoke/MethodHandle" ∧ yX10_startEmpty.cls ≠ "java/lang/invoke/VarHandle" ∧ (parseMethodDescriptor yX10_startEmpty.desc).map (fun d => d.parameters.length) = some 1)⟩
def mX0_tiesOf (R : Room) : MI := (yX0_tiesOf, cX0_tiesOf, 4, some (.int), R)
theorem mvX0_tiesOf (R : Room) : MV (mX0_tiesOf R) 1 := ⟨knX0, kcX0_tiesOf, (by decide +kernel : yX0_tiesOf.cls ≠ "java/lang/invoke/MethodHandle" ∧ yX0_tiesOf.cls ≠ "java/lang/invoke/VarHandle" ∧ (parseMethodDescriptor yX0_tiesOf.desc).map (fun d => d.parameters.length) = some 1)⟩
def mX10_widen (R : Room) : MI := (yX10_widen, cX10_widen, 18, none, R)
theorem mvX10_widen (R : Room) : MV (mX10_widen R) 3 := ⟨knX10, kcX10_widen, (by decide +kernel : yX10_widen.cls ≠ "java/lang/invoke/MethodHandle" ∧ yX10_widen.cls ≠ "java/lang/invoke/VarHandle" ∧ (parseMethodDescriptor yX10_widen.desc).map (fun d => d.parameters.length) = some 3)⟩
def mX10_shared (R : Room) : MI := (yX10_shared, cX10_shared, 4, some (.int), R)
theorem mvX10_shared (R : Room) : MV (mX10_shared R) 2 := ⟨knX10, kcX10_shared, (by decide +kernel : yX10_shared.cls ≠ "java/lang/invoke/MethodHandle" ∧ yX10_shared.cls ≠ "java/lang/invoke/VarHandle" ∧ (parseMethodDescriptor yX10_shared.desc).map (fun d => d.parameters.length) = some 2)⟩
def mX10_coupleOf (R : Room) : MI := (yX10_coupleOf, cX10_coupleOf, 2, some (.int), R)
theorem mvX10_coupleOf (R : Room) : MV (mX10_coupleOf R) 1 := ⟨knX10, kcX10_coupleOf, (by decide +kernel : yX10_coupleOf.cls ≠ "java/lang/invoke/MethodHandle" ∧ yX10_coupleOf.cls ≠ "java/lang/invoke/VarHandle" ∧ (parseMethodDescriptor yX10_coupleOf.desc).map (fun d => d.parameters.length) = some 1)⟩
def mX11_ways (R : Room) : MI := (yX11_ways, cX11_ways, 2, some (.long), R)
theorem mvX11_ways (R : Room) : MV (mX11_ways R) 1 := ⟨knX11, kcX11_ways, (by decide +kernel : yX11_ways.cls ≠ "java/lang/invoke/MethodHandle" ∧ yX11_ways.cls ≠ "java/lang/invoke/VarHandle" ∧ (parseMethodDescriptor yX11_ways.desc).map (fun d => d.parameters.length) = some 1)⟩
def mX10_mostPoints (R : Room) : MI := (yX10_mostPoints, cX10_mostPoints, 1, some (.int), R)
theorem mvX10_mostPoints (R : Room) : MV (mX10_mostPoints R) 0 := ⟨knX10, kcX10_mostPoints, (by decide +kernel : yX10_mostPoints.cls ≠ "java/lang/invoke/MethodHandle" ∧ yX10_mostPoints.cls ≠ "java/lang/invoke/VarHandle" ∧ (parseMethodDescriptor yX10_mostPoints.desc).map (fun d => d.parameters.length) = some 0)⟩
def mX10_howManyBest (R : Room) : MI := (yX10_howManyBest, cX10_howManyBest, 1, some (.long), R)
theorem mvX10_howManyBest (R : Room) : MV (mX10_howManyBest R) 0 := ⟨knX10, kcX10_howManyBest, (by decide +kernel : yX10_howManyBest.cls ≠ "java/lang/invoke/MethodHandle" ∧ yX10_howManyBest.cls ≠ "java/lang/invoke/VarHandle" ∧ (parseMethodDescriptor yX10_howManyBest.desc).map (fun d => d.parameters.length) = some 0)⟩
def mX10_howMany (R : Room) : MI := (yX10_howMany, cX10_howMany, 1, some (.long), R)
theorem mvX10_howMany (R : Room) : MV (mX10_howMany R) 0 := ⟨knX10, kcX10_howMany, (by decide +kernel : yX10_howMany.cls ≠ "java/lang/invoke/MethodHandle" ∧ yX10_howMany.cls ≠ "java/lang/invoke/VarHandle" ∧ (parseMethodDescriptor yX10_howMany.desc).map (fun d => d.parameters.length) = some 0)⟩
def mX10_gap (R : Room) : MI := (yX10_gap, cX10_gap, 2, some (.int), R)
theorem mvX10_gap (R : Room) : MV (mX10_gap R) 0 := ⟨knX10, kcX10_gap, (by decide +kernel : yX10_gap.cls ≠ "java/lang/invoke/MethodHandle" ∧ yX10_gap.cls ≠ "java/lang/invoke/VarHandle" ∧ (parseMethodDescriptor yX10_gap.desc).map (fun d => d.parameters.length) = some 0)⟩
def mX11_sure (R : Room) : MI := (yX11_sure, cX11_sure, 3, some (.int), R)
theorem mvX11_sure (R : Room) : MV (mX11_sure R) 2 := ⟨knX11, kcX11_sure, (by decide +kernel : yX11_sure.cls ≠ "java/lang/invoke/MethodHandle" ∧ yX11_sure.cls ≠ "java/lang/invoke/VarHandle" ∧ (parseMethodDescriptor yX11_sure.desc).map (fun d => d.parameters.length) = some 2)⟩
def mX10_alwaysOf (R : Room) : MI := (yX10_alwaysOf, cX10_alwaysOf, 2, some (.int), R)
theorem mvX10_alwaysOf (R : Room) : MV (mX10_alwaysOf R) 1 := ⟨knX10, kcX10_alwaysOf, (by decide +kernel : yX10_alwaysOf.cls ≠ "java/lang/invoke/MethodHandle" ∧ yX10_alwaysOf.cls ≠ "java/lang/invoke/VarHandle" ∧ (parseMethodDescriptor yX10_alwaysOf.desc).map (fun d => d.parameters.length) = some 1)⟩
def mX11_grand (R : Room) : MI := (yX11_grand, cX11_grand, 4, some (.int), R)
theorem mvX11_grand (R : Room) : MV (mX11_grand R) 2 := ⟨knX11, kcX11_grand, (by decide +kernel : yX11_grand.cls ≠ "java/lang/invoke/MethodHandle" ∧ yX11_grand.cls ≠ "java/lang/invoke/VarHandle" ∧ (parseMethodDescriptor yX11_grand.desc).map (fun d => d.parameters.length) = some 2)⟩
def mX10_familyOf (R : Room) : MI := (yX10_familyOf, cX10_familyOf, 4, some (.int), R)
theorem mvX10_familyOf (R : Room) : MV (mX10_familyOf R) 1 := ⟨knX10, kcX10_familyOf, (by decide +kernel : yX10_familyOf.cls ≠ "java/lang/invoke/MethodHandle" ∧ yX10_familyOf.cls ≠ "java/lang/invoke/VarHandle" ∧ (parseMethodDescriptor yX10_familyOf.desc).map (fun d => d.parameters.length) = some 1)⟩
def mX11_must (R : Room) : MI := (yX11_must, cX11_must, 4, some (.int), R)
theorem mvX11_must (R : Room) : MV (mX11_must R) 3 := ⟨knX11, kcX11_must, (by decide +kernel : yX11_must.cls ≠ "java/lang/invoke/MethodHandle" ∧ yX11_must.cls ≠ "java/lang/invoke/VarHandle" ∧ (parseMethodDescriptor yX11_must.desc).map (fun d => d.parameters.length) = some 3)⟩
def mX3_missing (R : Room) : MI := (yX3_missing, cX3_missing, 6, some (.int), R)
theorem mvX3_missing (R : Room) : MV (mX3_missing R) 2 := ⟨knX3, kcX3_missing, (by decide +kernel : yX3_missing.cls ≠ "java/lang/invoke/MethodHandle" ∧ yX3_missing.cls ≠ "java/lang/invoke/VarHandle" ∧ (parseMethodDescriptor yX3_missing.desc).map (fun d => d.parameters.length) = some 2)⟩
def mX3_foresee (R : Room) : MI := (yX3_foresee, cX3_foresee, 6, none, R)
theorem mvX3_foresee (R : Room) : MV (mX3_foresee R) 1 := ⟨knX3, kcX3_foresee, (by decide +kernel : yX3_foresee.cls ≠ "java/lang/invoke/MethodHandle" ∧ yX3_foresee.cls ≠ "java/lang/invoke/VarHandle" ∧ (parseMethodDescriptor yX3_foresee.desc).map (fun d => d.parameters.length) = some 1)⟩
def mX3_mayHold (R : Room) : MI := (yX3_mayHold, cX3_mayHold, 4, some (.boolean), R)
theorem mvX3_mayHold (R : Room) : MV (mX3_mayHold R) 2 := ⟨knX3, kcX3_mayHold, (by decide +kernel : yX3_mayHold.cls ≠ "java/lang/invoke/MethodHandle" ∧ yX3_mayHold.cls ≠ "java/lang/invoke/VarHandle" ∧ (parseMethodDescriptor yX3_mayHold.desc).map (fun d => d.parameters.length) = some 2)⟩
def mX3_fewest (R : Room) : MI := (yX3_fewest, cX3_fewest, 4, some (.int), R)
theorem mvX3_fewest (R : Room) : MV (mX3_fewest R) 1 := ⟨knX3, kcX3_fewest, (by decide +kernel : yX3_fewest.cls ≠ "java/lang/invoke/MethodHandle" ∧ yX3_fewest.cls ≠ "java/lang/invoke/VarHandle" ∧ (parseMethodDescriptor yX3_fewest.desc).map (fun d => d.parameters.length) = some 1)⟩
def mX3_suits (R : Room) : MI := (yX3_suits, cX3_suits, 4, some (.boolean), R)
theorem mvX3_suits (R : Room) : MV (mX3_suits R) 2 := ⟨knX3, kcX3_suits, (by decide +kernel : yX3_suits.cls ≠ "java/lang/invoke/MethodHandle" ∧ yX3_suits.cls ≠ "java/lang/invoke/VarHandle" ∧ (parseMethodDescriptor yX3_suits.desc).map (fun d => d.parameters.length) = some 2)⟩
def mX11_judge (R : Room) : MI := (yX11_judge, cX11_judge, 2, some (.int), R)
theorem mvX11_judge (R : Room) : MV (mX11_judge R) 0 := ⟨knX11, kcX11_judge, (by decide +kernel : yX11_judge.cls ≠ "java/lang/invoke/MethodHandle" ∧ yX11_judge.cls ≠ "java/lang/invoke/VarHandle" ∧ (parseMethodDescriptor yX11_judge.desc).map (fun d => d.parameters.length) = some 0)⟩
def mX7_take (R : Room) : MI := (yX7_take, cX7_take, 6, some (.int), R)
theorem mvX7_take (R : Room) : MV (mX7_take R) 1 := ⟨knX7, kcX7_take, (by decide +kernel : yX7_take.cls ≠ "java/lang/invoke/MethodHandle" ∧ yX7_take.cls ≠ "java/lang/invoke/VarHandle" ∧ (parseMethodDescriptor yX7_take.desc).map (fun d => d.parameters.length) = some 1)⟩
def mX7_firstBroken (R : Room) : MI := (yX7_firstBroken, cX7_firstBroken, 2, some (.int), R)
theorem mvX7_firstBroken (R : Room) : MV (mX7_firstBroken R) 0 := ⟨knX7, kcX7_firstBroken, (by decide +kernel : yX7_firstBroken.cls ≠ "java/lang/invoke/MethodHandle" ∧ yX7_firstBroken.cls ≠ "java/lang/invoke/VarHandle" ∧ (parseMethodDescriptor yX7_firstBroken.desc).map (fun d => d.parameters.length) = some 0)⟩
def mX7_worthBy (R : Room) : MI := (yX7_worthBy, cX7_worthBy, 4, some (.int), R)
theorem mvX7_worthBy (R : Room) : MV (mX7_worthBy R) 1 := ⟨knX7, kcX7_worthBy, (by decide +kernel : yX7_worthBy.cls ≠ "java/lang/invoke/MethodHandle" ∧ yX7_worthBy.cls ≠ "java/lang/invoke/VarHandle" ∧ (parseMethodDescriptor yX7_worthBy.desc).map (fun d => d.parameters.length) = some 1)⟩
def mX11_learnt (R : Room) : MI := (yX11_learnt, cX11_learnt, 5, some (.int), R)
theorem mvX11_learnt (R : Room) : MV (mX11_learnt R) 3 := ⟨knX11, kcX11_learnt, (by decide +kernel : yX11_learnt.cls ≠ "java/lang/invoke/MethodHandle" ∧ yX11_learnt.cls ≠ "java/lang/invoke/VarHandle" ∧ (parseMethodDescriptor yX11_learnt.desc).map (fun d => d.parameters.length) = some 3)⟩
def mX9_anyTold (R : Room) : MI := (yX9_anyTold, cX9_anyTold, 2, some (.boolean), R)
theorem mvX9_anyTold (R : Room) : MV (mX9_anyTold R) 0 := ⟨knX9, kcX9_anyTold, (by decide +kernel : yX9_anyTold.cls ≠ "java/lang/invoke/MethodHandle" ∧ yX9_anyTold.cls ≠ "java/lang/invoke/VarHandle" ∧ (parseMethodDescriptor yX9_anyTold.desc).map (fun d => d.parameters.length) = some 0)⟩
def mX7_learn (R : Room) : MI := (yX7_learn, cX7_learn, 14, some (.int), R)
theorem mvX7_learn (R : Room) : MV (mX7_learn R) 3 := ⟨knX7, kcX7_learn, (by decide +kernel : yX7_learn.cls ≠ "java/lang/invoke/MethodHandle" ∧ yX7_learn.cls ≠ "java/lang/invoke/VarHandle" ∧ (parseMethodDescriptor yX7_learn.desc).map (fun d => d.parameters.length) = some 3)⟩
def mX4_changesAt (R : Room) : MI := (yX4_changesAt, cX4_changesAt, 3, some (.boolean), R)
theorem mvX4_changesAt (R : Room) : MV (mX4_changesAt R) 1 := ⟨knX4, kcX4_changesAt, (by decide +kernel : yX4_changesAt.cls ≠ "java/lang/invoke/MethodHandle" ∧ yX4_changesAt.cls ≠ "java/lang/invoke/VarHandle" ∧ (parseMethodDescriptor yX4_changesAt.desc).map (fun d => d.parameters.length) = some 1)⟩
def mX11_little (R : Room) : MI := (yX11_little, cX11_little, 5, some (.int), R)
theorem mvX11_little (R : Room) : MV (mX11_little R) 1 := ⟨knX11, kcX11_little, (by decide +kernel : yX11_little.cls ≠ "java/lang/invoke/MethodHandle" ∧ yX11_little.cls ≠ "java/lang/invoke/VarHandle" ∧ (parseMethodDescriptor yX11_little.desc).map (fun d => d.parameters.length) = some 1)⟩
def mX11_fewerWithout (R : Room) : MI := (yX11_fewerWithout, cX11_fewerWithout, 5, some (.int), R)
theorem mvX11_fewerWithout (R : Room) : MV (mX11_fewerWithout R) 2 := ⟨knX11, kcX11_fewerWithout, (by decide +kernel : yX11_fewerWithout.cls ≠ "java/lang/invoke/MethodHandle" ∧ yX11_fewerWithout.cls ≠ "java/lang/invoke/VarHandle" ∧ (parseMethodDescriptor yX11_fewerWithout.desc).map (fun d => d.parameters.length) = some 2)⟩
def mX11_check (R : Room) : MI := (yX11_check, cX11_check, 4, some (.int), R)
theorem mvX11_check (R : Room) : MV (mX11_check R) 0 := ⟨knX11, kcX11_check, (by decide +kernel : yX11_check.cls ≠ "java/lang/invoke/MethodHandle" ∧ yX11_check.cls ≠ "java/lang/invoke/VarHandle" ∧ (parseMethodDescriptor yX11_check.desc).map (fun d => d.parameters.length) = some 0)⟩
def mX11_look (R : Room) : MI := (yX11_look, cX11_look, 3, some (.int), R)
theorem mvX11_look (R : Room) : MV (mX11_look R) 2 := ⟨knX11, kcX11_look, (by decide +kernel : yX11_look.cls ≠ "java/lang/invoke/MethodHandle" ∧ yX11_look.cls ≠ "java/lang/invoke/VarHandle" ∧ (parseMethodDescriptor yX11_look.desc).map (fun d => d.parameters.length) = some 2)⟩
def mX11_count (R : Room) : MI := (yX11_count, cX11_count, 2, some (.int), R)
theorem mvX11_count (R : Room) : MV (mX11_count R) 1 := ⟨knX11, kcX11_count, (by decide +kernel : yX11_count.cls ≠ "java/lang/invoke/MethodHandle" ∧ yX11_count.cls ≠ "java/lang/invoke/VarHandle" ∧ (parseMethodDescriptor yX11_count.desc).map (fun d => d.parameters.length) = some 1)⟩
def mX12_init (R : Room) : MI := (yX12_init, cX12_init, 1, none, R)
theorem mvX12_init (R : Room) : MV (mX12_init R) 0 := ⟨knX12, kcX12_init, (by decide +kernel : yX12_init.cls ≠ "java/lang/invoke/MethodHandle" ∧ yX12_init.cls ≠ "java/lang/invoke/VarHandle" ∧ (parseMethodDescriptor yX12_init.desc).map (fun d => d.parameters.length) = some 0)⟩
def mX12_name (R : Room) : MI := (yX12_name, cX12_name, 3, some (.int), R)
theorem mvX12_name (R : Room) : MV (mX12_name R) 2 := ⟨knX12, kcX12_name, (by decide +kernel : yX12_name.cls ≠ "java/lang/invoke/MethodHandle" ∧ yX12_name.cls ≠ "java/lang/invoke/VarHandle" ∧ (parseMethodDescriptor yX12_name.desc).map (fun d => d.parameters.length) = some 2)⟩
def mX12_lies (R : Room) : MI := (yX12_lies, cX12_lies, 6, some (.boolean), R)
theorem mvX12_lies (R : Room) : MV (mX12_lies R) 3 := ⟨knX12, kcX12_lies, (by decide +kernel : yX12_lies.cls ≠ "java/lang/invoke/MethodHandle" ∧ yX12_lies.cls ≠ "java/lang/invoke/VarHandle" ∧ (parseMethodDescriptor yX12_lies.desc).map (fun d => d.parameters.length) = some 3)⟩
def mX12_couple (R : Room) : MI := (yX12_couple, cX12_couple, 6, some (.int), R)
theorem mvX12_couple (R : Room) : MV (mX12_couple R) 4 := ⟨knX12, kcX12_couple, (by decide +kernel : yX12_couple.cls ≠ "java/lang/invoke/MethodHandle" ∧ yX12_couple.cls ≠ "java/lang/invoke/VarHandle" ∧ (parseMethodDescriptor yX12_couple.desc).map (fun d => d.parameters.length) = some 4)⟩
def mX12_isOf (R : Room) : MI := (yX12_isOf, cX12_isOf, 3, some (.boolean), R)
theorem mvX12_isOf (R : Room) : MV (mX12_isOf R) 2 := ⟨knX12, kcX12_isOf, (by decide +kernel : yX12_isOf.cls ≠ "java/lang/invoke/MethodHandle" ∧ yX12_isOf.cls ≠ "java/lang/invoke/VarHandle" ∧ (parseMethodDescriptor yX12_isOf.desc).map (fun d => d.parameters.length) = some 2)⟩
def mX12_isName (R : Room) : MI := (yX12_isName, cX12_isName, 2, some (.boolean), R)
theorem mvX12_isName (R : Room) : MV (mX12_isName R) 1 := ⟨knX12, kcX12_isName, (by decide +kernel : yX12_isName.cls ≠ "java/lang/invoke/MethodHandle" ∧ yX12_isName.cls ≠ "java/lang/invoke/VarHandle" ∧ (parseMethodDescriptor yX12_isName.desc).map (fun d => d.parameters.length) = some 1)⟩
def mX12_isYear (R : Room) : MI := (yX12_isYear, cX12_isYear, 1, some (.boolean), R)
theorem mvX12_isYear (R : Room) : MV (mX12_isYear R) 1 := ⟨knX12, kcX12_isYear, (by decide +kernel : yX12_isYear.cls ≠ "java/lang/invoke/MethodHandle" ∧ yX12_isYear.cls ≠ "java/lang/invoke/VarHandle" ∧ (parseMethodDescriptor yX12_isYear.desc).map (fun d => d.parameters.length) = some 1)⟩
def mX12_parent (R : Room) : MI := (yX12_parent, cX12_parent, 4, some (.boolean), R)
theorem mvX12_parent (R : Room) : MV (mX12_parent R) 3 := ⟨knX12, kcX12_parent, (by decide +kernel : yX12_parent.cls ≠ "java/lang/invoke/MethodHandle" ∧ yX12_parent.cls ≠ "java/lang/invoke/VarHandle" ∧ (parseMethodDescriptor yX12_parent.desc).map (fun d => d.parameters.length) = some 3)⟩
def mX12_isCouple (R : Room) : MI := (yX12_isCouple, cX12_isCouple, 2, some (.boolean), R)
theorem mvX12_isCouple (R : Room) : MV (mX12_isCouple R) 1 := ⟨knX12, kcX12_isCouple, (by decide +kernel : yX12_isCouple.cls ≠ "java/lang/invoke/MethodHandle" ∧ yX12_isCouple.cls ≠ "java/lang/invoke/VarHandle" ∧ (parseMethodDescriptor yX12_isCouple.desc).map (fun d => d.parameters.length) = some 1)⟩
def mX12_christening (R : Room) : MI := (yX12_christening, cX12_christening, 6, some (.int), R)
theorem mvX12_christening (R : Room) : MV (mX12_christening R) 5 := ⟨knX12, kcX12_christening, (by decide +kernel : yX12_christening.cls ≠ "java/lang/invoke/MethodHandle" ∧ yX12_christening.cls ≠ "java/lang/invoke/VarHandle" ∧ (parseMethodDescriptor yX12_christening.desc).map (fun d => d.parameters.length) = some 5)⟩
def mX12_died (R : Room) : MI := (yX12_died, cX12_died, 3, some (.boolean), R)
theorem mvX12_died (R : Room) : MV (mX12_died R) 2 := ⟨knX12, kcX12_died, (by decide +kernel : yX12_died.cls ≠ "java/lang/invoke/MethodHandle" ∧ yX12_died.cls ≠ "java/lang/invoke/VarHandle" ∧ (parseMethodDescriptor yX12_died.desc).map (fun d => d.parameters.length) = some 2)⟩
def mX12_isFont (R : Room) : MI := (yX12_isFont, cX12_isFont, 2, some (.boolean), R)
theorem mvX12_isFont (R : Room) : MV (mX12_isFont R) 1 := ⟨knX12, kcX12_isFont, (by decide +kernel : yX12_isFont.cls ≠ "java/lang/invoke/MethodHandle" ∧ yX12_isFont.cls ≠ "java/lang/invoke/VarHandle" ∧ (parseMethodDescriptor yX12_isFont.desc).map (fun d => d.parameters.length) = some 1)⟩
def mX12_weighs (R : Room) : MI := (yX12_weighs, cX12_weighs, 3, some (.boolean), R)
theorem mvX12_weighs (R : Room) : MV (mX12_weighs R) 2 := ⟨knX12, kcX12_weighs, (by decide +kernel : yX12_weighs.cls ≠ "java/lang/invoke/MethodHandle" ∧ yX12_weighs.cls ≠ "java/lang/invoke/VarHandle" ∧ (parseMethodDescriptor yX12_weighs.desc).map (fun d => d.parameters.length) = some 2)⟩
def mX12_feed (R : Room) : MI := (yX12_feed, cX12_feed, 6, some (.int), R)
theorem mvX12_feed (R : Room) : MV (mX12_feed R) 5 := ⟨knX12, kcX12_feed, (by decide +kernel : yX12_feed.cls ≠ "java/lang/invoke/MethodHandle" ∧ yX12_feed.cls ≠ "java/lang/invoke/VarHandle" ∧ (parseMethodDescriptor yX12_feed.desc).map (fun d => d.parameters.length) = some 5)⟩
def mX12_push (R : Room) : MI := (yX12_push, cX12_push, 3, none, R)
theorem mvX12_push (R : Room) : MV (mX12_push R) 1 := ⟨knX12, kcX12_push, (by decide +kernel : yX12_push.cls ≠ "java/lang/invoke/MethodHandle" ∧ yX12_push.cls ≠ "java/lang/invoke/VarHandle" ∧ (parseMethodDescriptor yX12_push.desc).map (fun d => d.parameters.length) = some 1)⟩
def mX12_custom (R : Room) : MI := (yX12_custom, cX12_custom, 5, some (.int), R)
theorem mvX12_custom (R : Room) : MV (mX12_custom R) 2 := ⟨knX12, kcX12_custom, (by decide +kernel : yX12_custom.cls ≠ "java/lang/invoke/MethodHandle" ∧ yX12_custom.cls ≠ "java/lang/invoke/VarHandle" ∧ (parseMethodDescriptor yX12_custom.desc).map (fun d => d.parameters.length) = some 2)⟩
def mX12_isGood (R : Room) : MI := (yX12_isGood, cX12_isGood, 1, some (.boolean), R)
theorem mvX12_isGood (R : Room) : MV (mX12_isGood R) 0 := ⟨knX12, kcX12_isGood, (by decide +kernel : yX12_isGood.cls ≠ "java/lang/invoke/MethodHandle" ∧ yX12_isGood.cls ≠ "java/lang/invoke/VarHandle" ∧ (parseMethodDescriptor yX12_isGood.desc).map (fun d => d.parameters.length) = some 0)⟩
def mX12_clause (R : Room) : MI := (yX12_clause, cX12_clause, 2, none, R)
theorem mvX12_clause (R : Room) : MV (mX12_clause R) 0 := ⟨knX12, kcX12_clause, (by decide +kernel : yX12_clause.cls ≠ "java/lang/invoke/MethodHandle" ∧ yX12_clause.cls ≠ "java/lang/invoke/VarHandle" ∧ (parseMethodDescriptor yX12_clause.desc).map (fun d => d.parameters.length) = some 0)⟩
def mX12_here (R : Room) : MI := (yX12_here, cX12_here, 1, some (.int), R)
theorem mvX12_here (R : Room) : MV (mX12_here R) 0 := ⟨knX12, kcX12_here, (by decide +kernel : yX12_here.cls ≠ "java/lang/invoke/MethodHandle" ∧ yX12_here.cls ≠ "java/lang/invoke/VarHandle" ∧ (parseMethodDescriptor yX12_here.desc).map (fun d => d.parameters.length) = some 0)⟩
def mX12_isClause (R : Room) : MI := (yX12_isClause, cX12_isClause, 1, some (.boolean), R)
theorem mvX12_isClause (R : Room) : MV (mX12_isClause R) 1 := ⟨knX12, kcX12_isClause, (by decide +kernel : yX12_isClause.cls ≠ "java/lang/invoke/MethodHandle" ∧ yX12_isClause.cls ≠ "java/lang/invoke/VarHandle" ∧ (parseMethodDescriptor yX12_isClause.desc).map (fun d => d.parameters.length) = some 1)⟩
def mX12_wrongs (R : Room) : MI := (yX12_wrongs, cX12_wrongs, 3, none, R)
theorem mvX12_wrongs (R : Room) : MV (mX12_wrongs R) 2 := ⟨knX12, kcX12_wrongs, (by decide +kernel : yX12_wrongs.cls ≠ "java/lang/invoke/MethodHandle" ∧ yX12_wrongs.cls ≠ "java/lang/invoke/VarHandle" ∧ (parseMethodDescriptor yX12_wrongs.desc).map (fun d => d.parameters.length) = some 2)⟩
def mX12_condition (R : Room) : MI := (yX12_condition, cX12_condition, 2, none, R)
theorem mvX12_condition (R : Room) : MV (mX12_condition R) 0 := ⟨knX12, kcX12_condition, (by decide +kernel : yX12_condition.cls ≠ "java/lang/invoke/MethodHandle" ∧ yX12_condition.cls ≠ "java/lang/invoke/VarHandle" ∧ (parseMethodDescriptor yX12_condition.desc).map (fun d => d.parameters.length) = some 0)⟩
def mX12_opens (R : Room) : MI := (yX12_opens, cX12_opens, 1, none, R)
theorem mvX12_opens (R : Room) : MV (mX12_opens R) 0 := ⟨knX12, kcX12_opens, (by decide +kernel : yX12_opens.cls ≠ "java/lang/invoke/MethodHandle" ∧ yX12_opens.cls ≠ "java/lang/invoke/VarHandle" ∧ (parseMethodDescriptor yX12_opens.desc).map (fun d => d.parameters.length) = some 0)⟩
def mX12_puts (R : Room) : MI := (yX12_puts, cX12_puts, 2, none, R)
theorem mvX12_puts (R : Room) : MV (mX12_puts R) 1 := ⟨knX12, kcX12_puts, (by decide +kernel : yX12_puts.cls ≠ "java/lang/invoke/MethodHandle" ∧ yX12_puts.cls ≠ "java/lang/invoke/VarHandle" ∧ (parseMethodDescriptor yX12_puts.desc).map (fun d => d.parameters.length) = some 1)⟩
def mX12_pieceOfC (R : Room) : MI := (yX12_pieceOfC, cX12_pieceOfC, 2, none, R)
theorem mvX12_pieceOfC (R : Room) : MV (mX12_pieceOfC R) 0 := ⟨knX12, kcX12_pieceOfC, (by decide +kernel : yX12_pieceOfC.cls ≠ "java/lang/invoke/MethodHandle" ∧ yX12_pieceOfC.cls ≠ "java/lang/invoke/VarHandle" ∧ (parseMethodDescriptor yX12_pieceOfC.desc).map (fun d => d.parameters.length) = some 0)⟩
def mX12_factor (R : Room) : MI := (yX12_factor, cX12_factor, 1, none, R)
theorem mvX12_factor (R : Room) : MV (mX12_factor R) 0 := ⟨knX12, kcX12_factor, (by decide +kernel : yX12_factor.cls ≠ "java/lang/invoke/MethodHandle" ∧ yX12_factor.cls ≠ "java/lang/invoke/VarHandle" ∧ (parseMethodDescriptor yX12_factor.desc).map (fun d => d.parameters.length) = some 0)⟩
def mX12_seesDigit (R : Room) : MI := (yX12_seesDigit, cX12_seesDigit, 1, some (.boolean), R)
theorem mvX12_seesDigit (R : Room) : MV (mX12_seesDigit R) 0 := ⟨knX12, kcX12_seesDigit, (by decide +kernel : yX12_seesDigit.cls ≠ "java/lang/invoke/MethodHandle" ∧ yX12_seesDigit.cls ≠ "java/lang/invoke/VarHandle" ∧ (parseMethodDescriptor yX12_seesDigit.desc).map (fun d => d.parameters.length) = some 0)⟩
def mX12_reads (R : Room) : MI := (yX12_reads, cX12_reads, 3, some (.int), R)
theorem mvX12_reads (R : Room) : MV (mX12_reads R) 0 := ⟨knX12, kcX12_reads, (by decide +kernel : yX12_reads.cls ≠ "java/lang/invoke/MethodHandle" ∧ yX12_reads.cls ≠ "java/lang/invoke/VarHandle" ∧ (parseMethodDescriptor yX12_reads.desc).map (fun d => d.parameters.length) = some 0)⟩
def mX12_emit (R : Room) : MI := (yX12_emit, cX12_emit, 3, none, R)
theorem mvX12_emit (R : Room) : MV (mX12_emit R) 2 := ⟨knX12, kcX12_emit, (by decide +kernel : yX12_emit.cls ≠ "java/lang/invoke/MethodHandle" ∧ yX12_emit.cls ≠ "java/lang/invoke/VarHandle" ∧ (parseMethodDescriptor yX12_emit.desc).map (fun d => d.parameters.length) = some 2)⟩
def mX12_isValue (R : Room) : MI := (yX12_isValue, cX12_isValue, 1, some (.boolean), R)
theorem mvX12_isValue (R : Room) : MV (mX12_isValue R) 1 := ⟨knX12, kcX12_isValue, (by decide +kernel : yX12_isValue.cls ≠ "java/lang/invoke/MethodHandle" ∧ yX12_isValue.cls ≠ "java/lang/invoke/VarHandle" ∧ (parseMethodDescriptor yX12_isValue.desc).map (fun d => d.parameters.length) = some 1)⟩
def mX12_goesOn (R : Room) : MI := (yX12_goesOn, cX12_goesOn, 2, some (.boolean), R)
theorem mvX12_goesOn (R : Room) : MV (mX12_goesOn R) 0 := ⟨knX12, kcX12_goesOn, (by decide +kernel : yX12_goesOn.cls ≠ "java/lang/invoke/MethodHandle" ∧ yX12_goesOn.cls ≠ "java/lang/invoke/VarHandle" ∧ (parseMethodDescriptor yX12_goesOn.desc).map (fun d => d.parameters.length) = some 0)⟩
def mX12_isTimes (R : Room) : MI := (yX12_isTimes, cX12_isTimes, 1, some (.boolean), R)
theorem mvX12_isTimes (R : Room) : MV (mX12_isTimes R) 1 := ⟨knX12, kcX12_isTimes, (by decide +kernel : yX12_isTimes.cls ≠ "java/lang/invoke/MethodHandle" ∧ yX12_isTimes.cls ≠ "java/lang/invoke/VarHandle" ∧ (parseMethodDescriptor yX12_isTimes.desc).map (fun d => d.parameters.length) = some 1)⟩
def mX12_isPlus (R : Room) : MI := (yX12_isPlus, cX12_isPlus, 1, some (.boolean), R)
theorem mvX12_isPlus (R : Room) : MV (mX12_isPlus R) 1 := ⟨knX12, kcX12_isPlus, (by decide +kernel : yX12_isPlus.cls ≠ "java/lang/invoke/MethodHandle" ∧ yX12_isPlus.cls ≠ "java/lang/invoke/VarHandle" ∧ (parseMethodDescriptor yX12_isPlus.desc).map (fun d => d.parameters.length) = some 1)⟩
def mX12_sums (R : Room) : MI := (yX12_sums, cX12_sums, 2, none, R)
theorem mvX12_sums (R : Room) : MV (mX12_sums R) 1 := ⟨knX12, kcX12_sums, (by decide +kernel : yX12_sums.cls ≠ "java/lang/invoke/MethodHandle" ∧ yX12_sums.cls ≠ "java/lang/invoke/VarHandle" ∧ (parseMethodDescriptor yX12_sums.desc).map (fun d => d.parameters.length) = some 1)⟩
def mX12_top (R : Room) : MI := (yX12_top, cX12_top, 1, some (.int), R)
theorem mvX12_top (R : Room) : MV (mX12_top R) 0 := ⟨knX12, kcX12_top, (by decide +kernel : yX12_top.cls ≠ "java/lang/invoke/MethodHandle" ∧ yX12_top.cls ≠ "java/lang/invoke/VarHandle" ∧ (parseMethodDescriptor yX12_top.desc).map (fun d => d.parameters.length) = some 0)⟩
def mX12_isSign (R : Room) : MI := (yX12_isSign, cX12_isSign, 1, some (.boolean), R)
theorem mvX12_isSign (R : Room) : MV (mX12_isSign R) 1 := ⟨knX12, kcX12_isSign, (by decide +kernel : yX12_isSign.cls ≠ "java/lang/invoke/MethodHandle" ∧ yX12_isSign.cls ≠ "java/lang/invoke/VarHandle" ∧ (parseMethodDescriptor yX12_isSign.desc).map (fun d => d.parameters.length) = some 1)⟩
def mX12_ends (R : Room) : MI := (yX12_ends, cX12_ends, 1, none, R)
theorem mvX12_ends (R : Room) : MV (mX12_ends R) 0 := ⟨knX12, kcX12_ends, (by decide +kernel : yX12_ends.cls ≠ "java/lang/invoke/MethodHandle" ∧ yX12_ends.cls ≠ "java/lang/invoke/VarHandle" ∧ (parseMethodDescriptor yX12_ends.desc).map (fun d => d.parameters.length) = some 0)⟩
def mX12_goesBehind (R : Room) : MI := (yX12_goesBehind, cX12_goesBehind, 2, some (.boolean), R)
theorem mvX12_goesBehind (R : Room) : MV (mX12_goesBehind R) 0 := ⟨knX12, kcX12_goesBehind, (by decide +kernel : yX12_goesBehind.cls ≠ "java/lang/invoke/MethodHandle" ∧ yX12_goesBehind.cls ≠ "java/lang/invoke/VarHandle" ∧ (parseMethodDescriptor yX12_goesBehind.desc).map (fun d => d.parameters.length) = some 0)⟩
def mX12_joins (R : Room) : MI := (yX12_joins, cX12_joins, 2, none, R)
theorem mvX12_joins (R : Room) : MV (mX12_joins R) 1 := ⟨knX12, kcX12_joins, (by decide +kernel : yX12_joins.cls ≠ "java/lang/invoke/MethodHandle" ∧ yX12_joins.cls ≠ "java/lang/invoke/VarHandle" ∧ (parseMethodDescriptor yX12_joins.desc).map (fun d => d.parameters.length) = some 1)⟩
def mX12_customs (R : Room) : MI := (yX12_customs, cX12_customs, 4, some (.boolean), R)
theorem mvX12_customs (R : Room) : MV (mX12_customs R) 3 := ⟨knX12, kcX12_customs, (by decide +kernel : yX12_customs.cls ≠ "java/lang/invoke/MethodHandle" ∧ yX12_customs.cls ≠ "java/lang/invoke/VarHandle" ∧ (parseMethodDescriptor yX12_customs.desc).map (fun d => d.parameters.length) = some 3)⟩
def mX12_tie (R : Room) : MI := (yX12_tie, cX12_tie, 3, some (.int), R)
theorem mvX12_tie (R : Room) : MV (mX12_tie R) 2 := ⟨knX12, kcX12_tie, (by decide +kernel : yX12_tie.cls ≠ "java/lang/invoke/MethodHandle" ∧ yX12_tie.cls ≠ "java/lang/invoke/VarHandle" ∧ (parseMethodDescriptor yX12_tie.desc).map (fun d => d.parameters.length) = some 2)⟩
def mX12_canTie (R : Room) : MI := (yX12_canTie, cX12_canTie, 3, some (.boolean), R)
theorem mvX12_canTie (R : Room) : MV (mX12_canTie R) 2 := ⟨knX12, kcX12_canTie, (by decide +kernel : yX12_canTie.cls ≠ "java/lang/invoke/MethodHandle" ∧ yX12_canTie.cls ≠ "java/lang/invoke/VarHandle" ∧ (parseMethodDescriptor yX12_canTie.desc).map (fun d => d.parameters.length) = some 2)⟩
def mX12_family (R : Room) : MI := (yX12_family, cX12_family, 3, some (.int), R)
theorem mvX12_family (R : Room) : MV (mX12_family R) 2 := ⟨knX12, kcX12_family, (by decide +kernel : yX12_family.cls ≠ "java/lang/invoke/MethodHandle" ∧ yX12_family.cls ≠ "java/lang/invoke/VarHandle" ∧ (parseMethodDescriptor yX12_family.desc).map (fun d => d.parameters.length) = some 2)⟩
def mX12_isSet (R : Room) : MI := (yX12_isSet, cX12_isSet, 2, some (.boolean), R)
theorem mvX12_isSet (R : Room) : MV (mX12_isSet R) 1 := ⟨knX12, kcX12_isSet, (by decide +kernel : yX12_isSet.cls ≠ "java/lang/invoke/MethodHandle" ∧ yX12_isSet.cls ≠ "java/lang/invoke/VarHandle" ∧ (parseMethodDescriptor yX12_isSet.desc).map (fun d => d.parameters.length) = some 1)⟩
def mX12_canFamily (R : Room) : MI := (yX12_canFamily, cX12_canFamily, 3, some (.boolean), R)
theorem mvX12_canFamily (R : Room) : MV (mX12_canFamily R) 2 := ⟨knX12, kcX12_canFamily, (by decide +kernel : yX12_canFamily.cls ≠ "java/lang/invoke/MethodHandle" ∧ yX12_canFamily.cls ≠ "java/lang/invoke/VarHandle" ∧ (parseMethodDescriptor yX12_canFamily.desc).map (fun d => d.parameters.length) = some 2)⟩
def mX12_takes (R : Room) : MI := (yX12_takes, cX12_takes, 5, none, R)
theorem mvX12_takes (R : Room) : MV (mX12_takes R) 2 := ⟨knX12, kcX12_takes, (by decide +kernel : yX12_takes.cls ≠ "java/lang/invoke/MethodHandle" ∧ yX12_takes.cls ≠ "java/lang/invoke/VarHandle" ∧ (parseMethodDescriptor yX12_takes.desc).map (fun d => d.parameters.length) = some 2)⟩
def mX12_has (R : Room) : MI := (yX12_has, cX12_has, 2, some (.boolean), R)
theorem mvX12_has (R : Room) : MV (mX12_has R) 2 := ⟨knX12, kcX12_has, (by decide +kernel : yX12_has.cls ≠ "java/lang/invoke/MethodHandle" ∧ yX12_has.cls ≠ "java/lang/invoke/VarHandle" ∧ (parseMethodDescriptor yX12_has.desc).map (fun d => d.parameters.length) = some 2)⟩
def mX12_isElder (R : Room) : MI := (yX12_isElder, cX12_isElder, 3, some (.boolean), R)
theorem mvX12_isElder (R : Room) : MV (mX12_isElder R) 2 := ⟨knX12, kcX12_isElder, (by decide +kernel : yX12_isElder.cls ≠ "java/lang/invoke/MethodHandle" ∧ yX12_isElder.cls ≠ "java/lang/invoke/VarHandle" ∧ (parseMethodDescriptor yX12_isElder.desc).map (fun d => d.parameters.length) = some 2)⟩
def mX12_canBe (R : Room) : MI := (yX12_canBe, cX12_canBe, 4, some (.boolean), R)
theorem mvX12_canBe (R : Room) : MV (mX12_canBe R) 0 := ⟨knX12, kcX12_canBe, (by decide +kernel : yX12_canBe.cls ≠ "java/lang/invoke/MethodHandle" ∧ yX12_canBe.cls ≠ "java/lang/invoke/VarHandle" ∧ (parseMethodDescriptor yX12_canBe.desc).map (fun d => d.parameters.length) = some 0)⟩
def mX12_isGone (R : Room) : MI := (yX12_isGone, cX12_isGone, 3, some (.boolean), R)
theorem mvX12_isGone (R : Room) : MV (mX12_isGone R) 2 := ⟨knX12, kcX12_isGone, (by decide +kernel : yX12_isGone.cls ≠ "java/lang/invoke/MethodHandle" ∧ yX12_isGone.cls ≠ "java/lang/invoke/VarHandle" ∧ (parseMethodDescriptor yX12_isGone.desc).map (fun d => d.parameters.length) = some 2)⟩
def mX12_points (R : Room) : MI := (yX12_points, cX12_points, 3, some (.int), R)
theorem mvX12_points (R : Room) : MV (mX12_points R) 2 := ⟨knX12, kcX12_points, (by decide +kernel : yX12_points.cls ≠ "java/lang/invoke/MethodHandle" ∧ yX12_points.cls ≠ "java/lang/invoke/VarHandle" ∧ (parseMethodDescriptor yX12_points.desc).map (fun d => d.parameters.length) = some 2)⟩
def mX12_pointsOf (R : Room) : MI := (yX12_pointsOf, cX12_pointsOf, 5, some (.int), R)
theorem mvX12_pointsOf (R : Room) : MV (mX12_pointsOf R) 2 := ⟨knX12, kcX12_pointsOf, (by decide +kernel : yX12_pointsOf.cls ≠ "java/lang/invoke/MethodHandle" ∧ yX12_pointsOf.cls ≠ "java/lang/invoke/VarHandle" ∧ (parseMethodDescriptor yX12_pointsOf.desc).map (fun d => d.parameters.length) = some 2)⟩
def mX12_asks (R : Room) : MI := (yX12_asks, cX12_asks, 3, none, R)
theorem mvX12_asks (R : Room) : MV (mX12_asks R) 0 := ⟨knX12, kcX12_asks, (by decide +kernel : yX12_asks.cls ≠ "java/lang/invoke/MethodHandle" ∧ yX12_asks.cls ≠ "java/lang/invoke/VarHandle" ∧ (parseMethodDescriptor yX12_asks.desc).map (fun d => d.parameters.length) = some 0)⟩
def mX12_letterOf (R : Room) : MI := (yX12_letterOf, cX12_letterOf, 5, some (.int), R)
theorem mvX12_letterOf (R : Room) : MV (mX12_letterOf R) 2 := ⟨knX12, kcX12_letterOf, (by decide +kernel : yX12_letterOf.cls ≠ "java/lang/invoke/MethodHandle" ∧ yX12_letterOf.cls ≠ "java/lang/invoke/VarHandle" ∧ (parseMethodDescriptor yX12_letterOf.desc).map (fun d => d.parameters.length) = some 2)⟩
def mX12_isThere (R : Room) : MI := (yX12_isThere, cX12_isThere, 4, some (.boolean), R)
theorem mvX12_isThere (R : Room) : MV (mX12_isThere R) 2 := ⟨knX12, kcX12_isThere, (by decide +kernel : yX12_isThere.cls ≠ "java/lang/invoke/MethodHandle" ∧ yX12_isThere.cls ≠ "java/lang/invoke/VarHandle" ∧ (parseMethodDescriptor yX12_isThere.desc).map (fun d => d.parameters.length) = some 2)⟩
def mX12_deadOf (R : Room) : MI := (yX12_deadOf, cX12_deadOf, 6, some (.int), R)
theorem mvX12_deadOf (R : Room) : MV (mX12_deadOf R) 1 := ⟨knX12, kcX12_deadOf, (by decide +kernel : yX12_deadOf.cls ≠ "java/lang/invoke/MethodHandle" ∧ yX12_deadOf.cls ≠ "java/lang/invoke/VarHandle" ∧ (parseMethodDescriptor yX12_deadOf.desc).map (fun d => d.parameters.length) = some 1)⟩
def mX12_holds (R : Room) : MI := (yX12_holds, cX12_holds, 6, some (.boolean), R)
theorem mvX12_holds (R : Room) : MV (mX12_holds R) 3 := ⟨knX12, kcX12_holds, (by decide +kernel : yX12_holds.cls ≠ "java/lang/invoke/MethodHandle" ∧ yX12_holds.cls ≠ "java/lang/invoke/VarHandle" ∧ (parseMethodDescriptor yX12_holds.desc).map (fun d => d.parameters.length) = some 3)⟩
def mX12_does (R : Room) : MI := (yX12_does, cX12_does, 4, none, R)
theorem mvX12_does (R : Room) : MV (mX12_does R) 2 := ⟨knX12, kcX12_does, (by decide +kernel : yX12_does.cls ≠ "java/lang/invoke/MethodHandle" ∧ yX12_does.cls ≠ "java/lang/invoke/VarHandle" ∧ (parseMethodDescriptor yX12_does.desc).map (fun d => d.parameters.length) = some 2)⟩
def mX12_worked (R : Room) : MI := (yX12_worked, cX12_worked, 3, some (.int), R)
theorem mvX12_worked (R : Room) : MV (mX12_worked R) 3 := ⟨knX12, kcX12_worked, (by decide +kernel : yX12_worked.cls ≠ "java/lang/invoke/MethodHandle" ∧ yX12_worked.cls ≠ "java/lang/invoke/VarHandle" ∧ (parseMethodDescriptor yX12_worked.desc).map (fun d => d.parameters.length) = some 3)⟩
def mX12_value (R : Room) : MI := (yX12_value, cX12_value, 8, some (.int), R)
theorem mvX12_value (R : Room) : MV (mX12_value R) 3 := ⟨knX12, kcX12_value, (by decide +kernel : yX12_value.cls ≠ "java/lang/invoke/MethodHandle" ∧ yX12_value.cls ≠ "java/lang/invoke/VarHandle" ∧ (parseMethodDescriptor yX12_value.desc).map (fun d => d.parameters.length) = some 3)⟩
def mX12_told (R : Room) : MI := (yX12_told, cX12_told, 3, some (.int), R)
theorem mvX12_told (R : Room) : MV (mX12_told R) 2 := ⟨knX12, kcX12_told, (by decide +kernel : yX12_told.cls ≠ "java/lang/invoke/MethodHandle" ∧ yX12_told.cls ≠ "java/lang/invoke/VarHandle" ∧ (parseMethodDescriptor yX12_told.desc).map (fun d => d.parameters.length) = some 2)⟩
def mX12_parentBy (R : Room) : MI := (yX12_parentBy, cX12_parentBy, 1, some (.int), R)
theorem mvX12_parentBy (R : Room) : MV (mX12_parentBy R) 1 := ⟨knX12, kcX12_parentBy, (by decide +kernel : yX12_parentBy.cls ≠ "java/lang/invoke/MethodHandle" ∧ yX12_parentBy.cls ≠ "java/lang/invoke/VarHandle" ∧ (parseMethodDescriptor yX12_parentBy.desc).map (fun d => d.parameters.length) = some 1)⟩
def mX12_bestNames (R : Room) : MI := (yX12_bestNames, cX12_bestNames, 7, some (.int), R)
theorem mvX12_bestNames (R : Room) : MV (mX12_bestNames R) 1 := ⟨knX12, kcX12_bestNames, (by decide +kernel : yX12_bestNames.cls ≠ "java/lang/invoke/MethodHandle" ∧ yX12_bestNames.cls ≠ "java/lang/invoke/VarHandle" ∧ (parseMethodDescriptor yX12_bestNames.desc).map (fun d => d.parameters.length) = some 1)⟩
def mX12_isBy (R : Room) : MI := (yX12_isBy, cX12_isBy, 3, some (.boolean), R)
theorem mvX12_isBy (R : Room) : MV (mX12_isBy R) 2 := ⟨knX12, kcX12_isBy, (by decide +kernel : yX12_isBy.cls ≠ "java/lang/invoke/MethodHandle" ∧ yX12_isBy.cls ≠ "java/lang/invoke/VarHandle" ∧ (parseMethodDescriptor yX12_isBy.desc).map (fun d => d.parameters.length) = some 2)⟩
def mX12_brings (R : Room) : MI := (yX12_brings, cX12_brings, 5, some (.int), R)
theorem mvX12_brings (R : Room) : MV (mX12_brings R) 2 := ⟨knX12, kcX12_brings, (by decide +kernel : yX12_brings.cls ≠ "java/lang/invoke/MethodHandle" ∧ yX12_brings.cls ≠ "java/lang/invoke/VarHandle" ∧ (parseMethodDescriptor yX12_brings.desc).map (fun d => d.parameters.length) = some 2)⟩
def mX12_pointsBy (R : Room) : MI := (yX12_pointsBy, cX12_pointsBy, 3, some (.int), R)
theorem mvX12_pointsBy (R : Room) : MV (mX12_pointsBy R) 2 := ⟨knX12, kcX12_pointsBy, (by decide +kernel : yX12_pointsBy.cls ≠ "java/lang/invoke/MethodHandle" ∧ yX12_pointsBy.cls ≠ "java/lang/invoke/VarHandle" ∧ (parseMethodDescriptor yX12_pointsBy.desc).map (fun d => d.parameters.length) = some 2)⟩
def mX12_lowestOf (R : Room) : MI := (yX12_lowestOf, cX12_lowestOf, 2, some (.int), R)
theorem mvX12_lowestOf (R : Room) : MV (mX12_lowestOf R) 1 := ⟨knX12, kcX12_lowestOf, (by decide +kernel : yX12_lowestOf.cls ≠ "java/lang/invoke/MethodHandle" ∧ yX12_lowestOf.cls ≠ "java/lang/invoke/VarHandle" ∧ (parseMethodDescriptor yX12_lowestOf.desc).map (fun d => d.parameters.length) = some 1)⟩
def mX12_by (R : Room) : MI := (yX12_by, cX12_by, 5, some (.int), R)
theorem mvX12_by (R : Room) : MV (mX12_by R) 3 := ⟨knX12, kcX12_by, (by decide +kernel : yX12_by.cls ≠ "java/lang/invoke/MethodHandle" ∧ yX12_by.cls ≠ "java/lang/invoke/VarHandle" ∧ (parseMethodDescriptor yX12_by.desc).map (fun d => d.parameters.length) = some 3)⟩
def mX12_placeOf (R : Room) : MI := (yX12_placeOf, cX12_placeOf, 5, some (.int), R)
theorem mvX12_placeOf (R : Room) : MV (mX12_placeOf R) 3 := ⟨knX12, kcX12_placeOf, (by decide +kernel : yX12_placeOf.cls ≠ "java/lang/invoke/MethodHandle" ∧ yX12_placeOf.cls ≠ "java/lang/invoke/VarHandle" ∧ (parseMethodDescriptor yX12_placeOf.desc).map (fun d => d.parameters.length) = some 3)⟩
def mX12_should (R : Room) : MI := (yX12_should, cX12_should, 5, some (.int), R)
theorem mvX12_should (R : Room) : MV (mX12_should R) 3 := ⟨knX12, kcX12_should, (by decide +kernel : yX12_should.cls ≠ "java/lang/invoke/MethodHandle" ∧ yX12_should.cls ≠ "java/lang/invoke/VarHandle" ∧ (parseMethodDescriptor yX12_should.desc).map (fun d => d.parameters.length) = some 3)⟩
def mX12_best (R : Room) : MI := (yX12_best, cX12_best, 2, some (.int), R)
theorem mvX12_best (R : Room) : MV (mX12_best R) 1 := ⟨knX12, kcX12_best, (by decide +kernel : yX12_best.cls ≠ "java/lang/invoke/MethodHandle" ∧ yX12_best.cls ≠ "java/lang/invoke/VarHandle" ∧ (parseMethodDescriptor yX12_best.desc).map (fun d => d.parameters.length) = some 1)⟩
def mX12_finds (R : Room) : MI := (yX12_finds, cX12_finds, 3, none, R)
theorem mvX12_finds (R : Room) : MV (mX12_finds R) 0 := ⟨knX12, kcX12_finds, (by decide +kernel : yX12_finds.cls ≠ "java/lang/invoke/MethodHandle" ∧ yX12_finds.cls ≠ "java/lang/invoke/VarHandle" ∧ (parseMethodDescriptor yX12_finds.desc).map (fun d => d.parameters.length) = some 0)⟩
def mX12_families (R : Room) : MI := (yX12_families, cX12_families, 3, none, R)
theorem mvX12_families (R : Room) : MV (mX12_families R) 0 := ⟨knX12, kcX12_families, (by decide +kernel : yX12_families.cls ≠ "java/lang/invoke/MethodHandle" ∧ yX12_families.cls ≠ "java/lang/invoke/VarHandle" ∧ (parseMethodDescriptor yX12_families.desc).map (fun d => d.parameters.length) = some 0)⟩
def mX12_allows (R : Room) : MI := (yX12_allows, cX12_allows, 2, none, R)
theorem mvX12_allows (R : Room) : MV (mX12_allows R) 0 := ⟨knX12, kcX12_allows, (by decide +kernel : yX12_allows.cls ≠ "java/lang/invoke/MethodHandle" ∧ yX12_allows.cls ≠ "java/lang/invoke/VarHandle" ∧ (parseMethodDescriptor yX12_allows.desc).map (fun d => d.parameters.length) = some 0)⟩
def mX12_works (R : Room) : MI := (yX12_works, cX12_works, 8, none, R)
theorem mvX12_works (R : Room) : MV (mX12_works R) 0 := ⟨knX12, kcX12_works, (by decide +kernel : yX12_works.cls ≠ "java/lang/invoke/MethodHandle" ∧ yX12_works.cls ≠ "java/lang/invoke/VarHandle" ∧ (parseMethodDescriptor yX12_works.desc).map (fun d => d.parameters.length) = some 0)⟩
def mX12_barred (R : Room) : MI := (yX12_barred, cX12_barred, 4, some (.int), R)
theorem mvX12_barred (R : Room) : MV (mX12_barred R) 1 := ⟨knX12, kcX12_barred, (by decide +kernel : yX12_barred.cls ≠ "java/lang/invoke/MethodHandle" ∧ yX12_barred.cls ≠ "java/lang/invoke/VarHandle" ∧ (parseMethodDescriptor yX12_barred.desc).map (fun d => d.parameters.length) = some 1)⟩
def mX12_sizeOf (R : Room) : MI := (yX12_sizeOf, cX12_sizeOf, 3, some (.int), R)
theorem mvX12_sizeOf (R : Room) : MV (mX12_sizeOf R) 1 := ⟨knX12, kcX12_sizeOf, (by decide +kernel : yX12_sizeOf.cls ≠ "java/lang/invoke/MethodHandle" ∧ yX12_sizeOf.cls ≠ "java/lang/invoke/VarHandle" ∧ (parseMethodDescriptor yX12_sizeOf.desc).map (fun d => d.parameters.length) = some 1)⟩
def mX12_comes (R : Room) : MI := (yX12_comes, cX12_comes, 5, none, R)
theorem mvX12_comes (R : Room) : MV (mX12_comes R) 3 := ⟨knX12, kcX12_comes, (by decide +kernel : yX12_comes.cls ≠ "java/lang/invoke/MethodHandle" ∧ yX12_comes.cls ≠ "java/lang/invoke/VarHandle" ∧ (parseMethodDescriptor yX12_comes.desc).map (fun d => d.parameters.length) = some 3)⟩
def mX12_ways (R : Room) : MI := (yX12_ways, cX12_ways, 2, some (.long), R)
theorem mvX12_ways (R : Room) : MV (mX12_ways R) 1 := ⟨knX12, kcX12_ways, (by decide +kernel : yX12_ways.cls ≠ "java/lang/invoke/MethodHandle" ∧ yX12_ways.cls ≠ "java/lang/invoke/VarHandle" ∧ (parseMethodDescriptor yX12_ways.desc).map (fun d => d.parameters.length) = some 1)⟩
def mX12_sure (R : Room) : MI := (yX12_sure, cX12_sure, 8, some (.int), R)
theorem mvX12_sure (R : Room) : MV (mX12_sure R) 2 := ⟨knX12, kcX12_sure, (by decide +kernel : yX12_sure.cls ≠ "java/lang/invoke/MethodHandle" ∧ yX12_sure.cls ≠ "java/lang/invoke/VarHandle" ∧ (parseMethodDescriptor yX12_sure.desc).map (fun d => d.parameters.length) = some 2)⟩
def mX12_grand (R : Room) : MI := (yX12_grand, cX12_grand, 3, some (.int), R)
theorem mvX12_grand (R : Room) : MV (mX12_grand R) 2 := ⟨knX12, kcX12_grand, (by decide +kernel : yX12_grand.cls ≠ "java/lang/invoke/MethodHandle" ∧ yX12_grand.cls ≠ "java/lang/invoke/VarHandle" ∧ (parseMethodDescriptor yX12_grand.desc).map (fun d => d.parameters.length) = some 2)⟩
def mX12_setOf (R : Room) : MI := (yX12_setOf, cX12_setOf, 4, some (.int), R)
theorem mvX12_setOf (R : Room) : MV (mX12_setOf R) 1 := ⟨knX12, kcX12_setOf, (by decide +kernel : yX12_setOf.cls ≠ "java/lang/invoke/MethodHandle" ∧ yX12_setOf.cls ≠ "java/lang/invoke/VarHandle" ∧ (parseMethodDescriptor yX12_setOf.desc).map (fun d => d.parameters.length) = some 1)⟩
def mX12_must (R : Room) : MI := (yX12_must, cX12_must, 5, some (.int), R)
theorem mvX12_must (R : Room) : MV (mX12_must R) 3 := ⟨knX12, kcX12_must, (by decide +kernel : yX12_must.cls ≠ "java/lang/invoke/MethodHandle" ∧ yX12_must.cls ≠ "java/lang/invoke/VarHandle" ∧ (parseMethodDescriptor yX12_must.desc).map (fun d => d.parameters.length) = some 3)⟩
def mX12_cellOf (R : Room) : MI := (yX12_cellOf, cX12_cellOf, 3, some (.int), R)
theorem mvX12_cellOf (R : Room) : MV (mX12_cellOf R) 3 := ⟨knX12, kcX12_cellOf, (by decide +kernel : yX12_cellOf.cls ≠ "java/lang/invoke/MethodHandle" ∧ yX12_cellOf.cls ≠ "java/lang/invoke/VarHandle" ∧ (parseMethodDescriptor yX12_cellOf.desc).map (fun d => d.parameters.length) = some 3)⟩
def mX12_needs (R : Room) : MI := (yX12_needs, cX12_needs, 11, none, R)
theorem mvX12_needs (R : Room) : MV (mX12_needs R) 2 := ⟨knX12, kcX12_needs, (by decide +kernel : yX12_needs.cls ≠ "java/lang/invoke/MethodHandle" ∧ yX12_needs.cls ≠ "java/lang/invoke/VarHandle" ∧ (parseMethodDescriptor yX12_needs.desc).map (fun d => d.parameters.length) = some 2)⟩
def mX12_judge (R : Room) : MI := (yX12_judge, cX12_judge, 2, some (.int), R)
theorem mvX12_judge (R : Room) : MV (mX12_judge R) 0 := ⟨knX12, kcX12_judge, (by decide +kernel : yX12_judge.cls ≠ "java/lang/invoke/MethodHandle" ∧ yX12_judge.cls ≠ "java/lang/invoke/VarHandle" ∧ (parseMethodDescriptor yX12_judge.desc).map (fun d => d.parameters.length) = some 0)⟩
def mX12_wayOf (R : Room) : MI := (yX12_wayOf, cX12_wayOf, 3, some (.int), R)
theorem mvX12_wayOf (R : Room) : MV (mX12_wayOf R) 0 := ⟨knX12, kcX12_wayOf, (by decide +kernel : yX12_wayOf.cls ≠ "java/lang/invoke/MethodHandle" ∧ yX12_wayOf.cls ≠ "java/lang/invoke/VarHandle" ∧ (parseMethodDescriptor yX12_wayOf.desc).map (fun d => d.parameters.length) = some 0)⟩
def mX12_setBy (R : Room) : MI := (yX12_setBy, cX12_setBy, 4, some (.int), R)
theorem mvX12_setBy (R : Room) : MV (mX12_setBy R) 1 := ⟨knX12, kcX12_setBy, (by decide +kernel : yX12_setBy.cls ≠ "java/lang/invoke/MethodHandle" ∧ yX12_setBy.cls ≠ "java/lang/invoke/VarHandle" ∧ (parseMethodDescriptor yX12_setBy.desc).map (fun d => d.parameters.length) = some 1)⟩
def mX12_wayPoints (R : Room) : MI := (yX12_wayPoints, cX12_wayPoints, 3, some (.int), R)
theorem mvX12_wayPoints (R : Room) : MV (mX12_wayPoints R) 0 := ⟨knX12, kcX12_wayPoints, (by decide +kernel : yX12_wayPoints.cls ≠ "java/lang/invoke/MethodHandle" ∧ yX12_wayPoints.cls ≠ "java/lang/invoke/VarHandle" ∧ (parseMethodDescriptor yX12_wayPoints.desc).map (fun d => d.parameters.length) = some 0)⟩
def mX12_learnt (R : Room) : MI := (yX12_learnt, cX12_learnt, 12, some (.int), R)
theorem mvX12_learnt (R : Room) : MV (mX12_learnt R) 3 := ⟨knX12, kcX12_learnt, (by decide +kernel : yX12_learnt.cls ≠ "java/lang/invoke/MethodHandle" ∧ yX12_learnt.cls ≠ "java/lang/invoke/VarHandle" ∧ (parseMethodDescriptor yX12_learnt.desc).map (fun d => d.parameters.length) = some 3)⟩
def mX12_little (R : Room) : MI := (yX12_little, cX12_little, 6, some (.int), R)
theorem mvX12_little (R : Room) : MV (mX12_little R) 1 := ⟨knX12, kcX12_little, (by decide +kernel : yX12_little.cls ≠ "java/lang/invoke/MethodHandle" ∧ yX12_little.cls ≠ "java/lang/invoke/VarHandle" ∧ (parseMethodDescriptor yX12_little.desc).map (fun d => d.parameters.length) = some 1)⟩
def mX12_check (R : Room) : MI := (yX12_check, cX12_check, 2, some (.int), R)
theorem mvX12_check (R : Room) : MV (mX12_check R) 0 := ⟨knX12, kcX12_check, (by decide +kernel : yX12_check.cls ≠ "java/lang/invoke/MethodHandle" ∧ yX12_check.cls ≠ "java/lang/invoke/VarHandle" ∧ (parseMethodDescriptor yX12_check.desc).map (fun d => d.parameters.length) = some 0)⟩
def mX12_look (R : Room) : MI := (yX12_look, cX12_look, 3, some (.int), R)
theorem mvX12_look (R : Room) : MV (mX12_look R) 2 := ⟨knX12, kcX12_look, (by decide +kernel : yX12_look.cls ≠ "java/lang/invoke/MethodHandle" ∧ yX12_look.cls ≠ "java/lang/invoke/VarHandle" ∧ (parseMethodDescriptor yX12_look.desc).map (fun d => d.parameters.length) = some 2)⟩
def mX12_count (R : Room) : MI := (yX12_count, cX12_count, 2, some (.int), R)
theorem mvX12_count (R : Room) : MV (mX12_count R) 1 := ⟨knX12, kcX12_count, (by decide +kernel : yX12_count.cls ≠ "java/lang/invoke/MethodHandle" ∧ yX12_count.cls ≠ "java/lang/invoke/VarHandle" ∧ (parseMethodDescriptor yX12_count.desc).map (fun d => d.parameters.length) = some 1)⟩
