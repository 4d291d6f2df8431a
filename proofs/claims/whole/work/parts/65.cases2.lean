/-! the law's cases, the others -/
set_option maxRecDepth 10000 in
theorem l_walled {ro : Nat → Option (Nat × (Nat → Int32))} {K : gK} (hK : gClosed (gSafe 13) mL_law 14 lwPost lwX ro K) {b L : Nat} {xs : Nat → Int32} (hro : ro b = some (L, xs)) (hL : L ≤ 2048) {q : Nat} (hq : q + 3 < L) {a o : Nat} {n n' m : Nat → Nat} {S : CS} {i : Nat} (I : InvC S i) (hi : i ≤ 512) {h : gH} (A : LawAt h a o n n' m S) {w5 w6 w7 w8 : Option Value} {bc bs : Nat} (hbc : 80 ≤ bc) (hbs : 500 ≤ bs) (next : ∀ h' S' w5 w6 w7 w8 bc' bs', InvC S' (i + 1) → LawAt h' a o n n' m S' → bc ≤ bc' + 80 → bs ≤ bs' + 500 → K 1640 [some (.ref b), some (.ref a), some (.ref (m 0)), some (.ref o), some (.int (nI q)), w5, w6, w7, w8] [] h' bc' bs') : K 910 [some (.ref b), some (.ref a), some (.ref (m 0)), some (.ref o), some (.int (nI q)), w5, w6, w7, w8] [] h bc bs := by
  obtain ⟨C, ⟨thr, lt, st, rw, M⟩, ⟨fo, O⟩, D⟩ := A
  have V := I.1
  refine s_aload_n hK dL_law_910 rfl ?_
  refine s_ro hK (cc := 1) dL_law_911 dL_law_912 dL_law_914 dL_law_915 dL_law_916 rfl rfl (by decide) hro (by omega) (by omega) ?_
  refine s_ro hK (cc := 2) dL_law_917 dL_law_918 dL_law_920 dL_law_921 dL_law_922 rfl rfl (by decide) hro (by omega) (by omega) ?_
  refine s_ro hK (cc := 3) dL_law_923 dL_law_924 dL_law_926 dL_law_927 dL_law_928 rfl rfl (by decide) hro (by omega) (by omega) ?_
  refine s_aload_n hK dL_law_929 rfl ?_
  refine s_W5 hK (mc := 4) (ms := 24) dL_law_930 kW_L_125 (by rfl) (by omega) (by omega) ?_
  refine w_walled _ C V.1 O (by omega) (by omega) (fun h1 k f1 C1 O1 F1 R1 => ?_)
  have M1 := law_M M O C D F1
  have M0 := M1.own0
  refine s_istore hK dL_law_933 rfl ?_
  refine s_aload_n hK dL_law_935 rfl ?_
  refine s_ro hK (cc := 1) dL_law_936 dL_law_937 dL_law_939 dL_law_940 dL_law_941 rfl rfl (by decide) hro (by omega) (by omega) ?_
  refine s_ro hK (cc := 2) dL_law_942 dL_law_943 dL_law_945 dL_law_946 dL_law_947 rfl rfl (by decide) hro (by omega) (by omega) ?_
  refine s_ro hK (cc := 3) dL_law_948 dL_law_949 dL_law_951 dL_law_952 dL_law_953 rfl rfl (by decide) hro (by omega) (by omega) ?_
  refine s_V30 hK dL_law_954 kV_L_127 (by first | assumption | exact H.1 | exact H.2.1) (by rfl) ?_
  refine c_walledM _ M1 V.2.1 (fun h2 thr2 v2 lt2 st2 rw2 M2 F2 R2 => ?_)
  obtain ⟨C2, O2⟩ := law_C M1 O1 C1 D F2
  have M0 := M2.own0
  obtain ⟨key1, key2⟩ := ans_key cdB_ne R1 R2
  refine s_istore hK dL_law_957 rfl ?_
  refine s_aload_n hK dL_law_959 rfl ?_
  refine s_V00 hK dL_law_960 kV_L_91 (by first | assumption | exact H.1 | exact H.2.1) (by rfl) ?_
  refine c_thrown _ M2 ?_
  refine s_iload hK dL_law_963 rfl ?_
  refine s_icmpeq hK dL_law_965 970 (by decide) (fun c_965 => ?_) (fun c_965 => ?_)
  · refine s_iload hK dL_law_970 rfl ?_
    refine s_ifne hK dL_law_972 994 (by decide) (fun c_972 => ?_) (fun c_972 => ?_)
    · refine s_goto hK dL_law_994 1640 (by decide) ?_
      exact next h2 (fWalled S (xs (q + 1)) (xs (q + 2)) (xs (q + 3))).2 _ _ _ _ _ _ (kWalled I) ⟨C2, ⟨_, _, _, _, M2⟩, ⟨f1, O2⟩, D⟩ (by omega) (by omega)
    · have k0 : k = 0 := Decidable.of_not_not (by first | exact c_972 | exact fun w => w c_972)
      refine s_aload_n hK dL_law_975 rfl ?_
      refine s_iconst hK (v := 0) dL_law_976 (by decide) ?_
      refine s_laloadN hK (j := 0) dL_law_977 O2 (by omega) (by omega) ?_
      rw [(key2 k0).1]
      obtain ⟨bv, ebv⟩ := bl_key (rWalled S (xs (q + 1)) (xs (q + 2)) (xs (q + 3))) (key2 k0).2
      rw [ebv]
      refine s_iload hK dL_law_978 rfl ?_
      cases bv with
      | false =>
        refine s_ifeq hK dL_law_980 987 (by decide) (fun c_980 => ?_) (fun c_980 => ?_)
        · refine s_lconst hK (v := 0) dL_law_987 (by decide) ?_
          refine s_lcmp hK dL_law_988 ?_
          refine s_ifeq hK dL_law_989 994 (by decide) (fun c_989 => ?_) (fun c_989 => ?_)
          · refine s_goto hK dL_law_994 1640 (by decide) ?_
            exact next h2 (fWalled S (xs (q + 1)) (xs (q + 2)) (xs (q + 3))).2 _ _ _ _ _ _ (kWalled I) ⟨C2, ⟨_, _, _, _, M2⟩, ⟨f1, O2⟩, D⟩ (by omega) (by omega)
          · exact absurd (by decide) c_989
        · exact absurd rfl c_980
      | true =>
        refine s_ifeq hK dL_law_980 987 (by decide) (fun c_980 => ?_) (fun c_980 => ?_)
        · exact absurd c_980 (by decide)
        · refine s_lconst hK (v := 1) dL_law_983 (by decide) ?_
          refine s_goto hK dL_law_984 988 (by decide) ?_
          refine s_lcmp hK dL_law_988 ?_
          refine s_ifeq hK dL_law_989 994 (by decide) (fun c_989 => ?_) (fun c_989 => ?_)
          · refine s_goto hK dL_law_994 1640 (by decide) ?_
            exact next h2 (fWalled S (xs (q + 1)) (xs (q + 2)) (xs (q + 3))).2 _ _ _ _ _ _ (kWalled I) ⟨C2, ⟨_, _, _, _, M2⟩, ⟨f1, O2⟩, D⟩ (by omega) (by omega)
          · exact absurd (by decide) c_989
  · exact absurd key1 c_965
set_option maxRecDepth 10000 in
theorem l_ghost {ro : Nat → Option (Nat × (Nat → Int32))} {K : gK} (hK : gClosed (gSafe 13) mL_law 14 lwPost lwX ro K) {b L : Nat} {xs : Nat → Int32} (hro : ro b = some (L, xs)) (hL : L ≤ 2048) {q : Nat} (hq : q + 3 < L) {a o : Nat} {n n' m : Nat → Nat} {S : CS} {i : Nat} (I : InvC S i) (hi : i ≤ 512) {h : gH} (A : LawAt h a o n n' m S) {w5 w6 w7 w8 : Option Value} {bc bs : Nat} (hbc : 80 ≤ bc) (hbs : 500 ≤ bs) (next : ∀ h' S' w5 w6 w7 w8 bc' bs', InvC S' (i + 1) → LawAt h' a o n n' m S' → bc ≤ bc' + 80 → bs ≤ bs' + 500 → K 1640 [some (.ref b), some (.ref a), some (.ref (m 0)), some (.ref o), some (.int (nI q)), w5, w6, w7, w8] [] h' bc' bs') : K 997 [some (.ref b), some (.ref a), some (.ref (m 0)), some (.ref o), some (.int (nI q)), w5, w6, w7, w8] [] h bc bs := by
  obtain ⟨C, ⟨thr, lt, st, rw, M⟩, ⟨fo, O⟩, D⟩ := A
  have V := I.1
  refine s_aload_n hK dL_law_997 rfl ?_
  refine s_ro hK (cc := 1) dL_law_998 dL_law_999 dL_law_1001 dL_law_1002 dL_law_1003 rfl rfl (by decide) hro (by omega) (by omega) ?_
  refine s_ro hK (cc := 2) dL_law_1004 dL_law_1005 dL_law_1007 dL_law_1008 dL_law_1009 rfl rfl (by decide) hro (by omega) (by omega) ?_
  refine s_aload_n hK dL_law_1010 rfl ?_
  refine s_W4 hK (mc := 4) (ms := 24) dL_law_1011 kW_L_128 (by rfl) (by omega) (by omega) ?_
  refine w_ghost _ C V.1 O (by omega) (by omega) (fun h1 k f1 C1 O1 F1 R1 => ?_)
  have M1 := law_M M O C D F1
  have M0 := M1.own0
  refine s_istore hK dL_law_1014 rfl ?_
  refine s_aload_n hK dL_law_1016 rfl ?_
  refine s_ro hK (cc := 1) dL_law_1017 dL_law_1018 dL_law_1020 dL_law_1021 dL_law_1022 rfl rfl (by decide) hro (by omega) (by omega) ?_
  refine s_ro hK (cc := 2) dL_law_1023 dL_law_1024 dL_law_1026 dL_law_1027 dL_law_1028 rfl rfl (by decide) hro (by omega) (by omega) ?_
  refine s_V2 hK (mc := 1) (ms := 8) dL_law_1029 kV_L_130 (by first | assumption | exact H.1 | exact H.2.1) (by rfl) (by omega) (by omega) ?_
  refine c_ghostM _ M1 V.1 (by omega) (by omega) (fun h2 thr2 v2 lt2 st2 rw2 M2 F2 R2 => ?_)
  obtain ⟨C2, O2⟩ := law_C M1 O1 C1 D F2
  have M0 := M2.own0
  obtain ⟨key1, key2⟩ := ans_key cdB_ne R1 R2
  refine s_istore hK dL_law_1032 rfl ?_
  refine s_aload_n hK dL_law_1034 rfl ?_
  refine s_V00 hK dL_law_1035 kV_L_91 (by first | assumption | exact H.1 | exact H.2.1) (by rfl) ?_
  refine c_thrown _ M2 ?_
  refine s_iload hK dL_law_1038 rfl ?_
  refine s_icmpeq hK dL_law_1040 1045 (by decide) (fun c_1040 => ?_) (fun c_1040 => ?_)
  · refine s_iload hK dL_law_1045 rfl ?_
    refine s_ifne hK dL_law_1047 1062 (by decide) (fun c_1047 => ?_) (fun c_1047 => ?_)
    · refine s_goto hK dL_law_1062 1640 (by decide) ?_
      exact next h2 (fGhost S (xs (q + 1)) (xs (q + 2))).2 _ _ _ _ _ _ (kGhost I) ⟨C2, ⟨_, _, _, _, M2⟩, ⟨f1, O2⟩, D⟩ (by omega) (by omega)
    · have k0 : k = 0 := Decidable.of_not_not (by first | exact c_1047 | exact fun w => w c_1047)
      refine s_aload_n hK dL_law_1050 rfl ?_
      refine s_iconst hK (v := 0) dL_law_1051 (by decide) ?_
      refine s_laloadN hK (j := 0) dL_law_1052 O2 (by omega) (by omega) ?_
      rw [(key2 k0).1]
      refine s_iload hK dL_law_1053 rfl ?_
      refine s_i2l hK dL_law_1055 ?_
      refine s_lcmp hK dL_law_1056 ?_
      refine s_ifeq hK dL_law_1057 1062 (by decide) (fun c_1057 => ?_) (fun c_1057 => ?_)
      · refine s_goto hK dL_law_1062 1640 (by decide) ?_
        exact next h2 (fGhost S (xs (q + 1)) (xs (q + 2))).2 _ _ _ _ _ _ (kGhost I) ⟨C2, ⟨_, _, _, _, M2⟩, ⟨f1, O2⟩, D⟩ (by omega) (by omega)
      · exact absurd ((lg_cmp_eq _ _).mpr rfl) c_1057
  · exact absurd key1 c_1040
set_option maxRecDepth 10000 in
theorem l_count {ro : Nat → Option (Nat × (Nat → Int32))} {K : gK} (hK : gClosed (gSafe 13) mL_law 14 lwPost lwX ro K) {b L : Nat} {xs : Nat → Int32} (hro : ro b = some (L, xs)) (hL : L ≤ 2048) {q : Nat} (hq : q + 3 < L) {a o : Nat} {n n' m : Nat → Nat} {S : CS} {i : Nat} (I : InvC S i) (hi : i ≤ 512) {h : gH} (A : LawAt h a o n n' m S) {w5 w6 w7 w8 : Option Value} {bc bs : Nat} (hbc : 80 ≤ bc) (hbs : 500 ≤ bs) (next : ∀ h' S' w5 w6 w7 w8 bc' bs', InvC S' (i + 1) → LawAt h' a o n n' m S' → bc ≤ bc' + 80 → bs ≤ bs' + 500 → K 1640 [some (.ref b), some (.ref a), some (.ref (m 0)), some (.ref o), some (.int (nI q)), w5, w6, w7, w8] [] h' bc' bs') : K 1065 [some (.ref b), some (.ref a), some (.ref (m 0)), some (.ref o), some (.int (nI q)), w5, w6, w7, w8] [] h bc bs := by
  obtain ⟨C, ⟨thr, lt, st, rw, M⟩, ⟨fo, O⟩, D⟩ := A
  have V := I.1
  refine s_aload_n hK dL_law_1065 rfl ?_
  refine s_ro hK (cc := 1) dL_law_1066 dL_law_1067 dL_law_1069 dL_law_1070 dL_law_1071 rfl rfl (by decide) hro (by omega) (by omega) ?_
  refine s_aload_n hK dL_law_1072 rfl ?_
  refine s_W3 hK (mc := 4) (ms := 24) dL_law_1073 kW_L_131 (by rfl) (by omega) (by omega) ?_
  refine w_count _ C V.1 O (by omega) (by omega) (fun h1 k f1 C1 O1 F1 R1 => ?_)
  have M1 := law_M M O C D F1
  have M0 := M1.own0
  refine s_istore hK dL_law_1076 rfl ?_
  refine s_aload_n hK dL_law_1078 rfl ?_
  refine s_ro hK (cc := 1) dL_law_1079 dL_law_1080 dL_law_1082 dL_law_1083 dL_law_1084 rfl rfl (by decide) hro (by omega) (by omega) ?_
  refine s_V10 hK dL_law_1085 kV_L_133 (by first | assumption | exact H.1 | exact H.2.1) (by rfl) ?_
  refine c_countM _ M1 V.2.2.1 V.2.1 (T_D V.2.2.1) V.2.2.2 (by rw [V.2.2.2]; exact relit_SBs 63 (Nat.le_refl _)) (fun h2 thr2 v2 lt2 st2 rw2 M2 F2 R2 => ?_)
  obtain ⟨C2, O2⟩ := law_C M1 O1 C1 D F2
  have M0 := M2.own0
  obtain ⟨key1, key2⟩ := ans_key cdB_ne R1 R2
  refine s_istore hK dL_law_1088 rfl ?_
  refine s_aload_n hK dL_law_1090 rfl ?_
  refine s_V00 hK dL_law_1091 kV_L_91 (by first | assumption | exact H.1 | exact H.2.1) (by rfl) ?_
  refine c_thrown _ M2 ?_
  refine s_iload hK dL_law_1094 rfl ?_
  refine s_icmpeq hK dL_law_1096 1101 (by decide) (fun c_1096 => ?_) (fun c_1096 => ?_)
  · refine s_iload hK dL_law_1101 rfl ?_
    refine s_ifne hK dL_law_1103 1118 (by decide) (fun c_1103 => ?_) (fun c_1103 => ?_)
    · refine s_goto hK dL_law_1118 1640 (by decide) ?_
      exact next h2 (fCount S (xs (q + 1))).2 _ _ _ _ _ _ (kCount I) ⟨C2, ⟨_, _, _, _, M2⟩, ⟨f1, O2⟩, D⟩ (by omega) (by omega)
    · have k0 : k = 0 := Decidable.of_not_not (by first | exact c_1103 | exact fun w => w c_1103)
      refine s_aload_n hK dL_law_1106 rfl ?_
      refine s_iconst hK (v := 0) dL_law_1107 (by decide) ?_
      refine s_laloadN hK (j := 0) dL_law_1108 O2 (by omega) (by omega) ?_
      rw [(key2 k0).1]
      refine s_iload hK dL_law_1109 rfl ?_
      refine s_i2l hK dL_law_1111 ?_
      refine s_lcmp hK dL_law_1112 ?_
      refine s_ifeq hK dL_law_1113 1118 (by decide) (fun c_1113 => ?_) (fun c_1113 => ?_)
      · refine s_goto hK dL_law_1118 1640 (by decide) ?_
        exact next h2 (fCount S (xs (q + 1))).2 _ _ _ _ _ _ (kCount I) ⟨C2, ⟨_, _, _, _, M2⟩, ⟨f1, O2⟩, D⟩ (by omega) (by omega)
      · exact absurd ((lg_cmp_eq _ _).mpr rfl) c_1113
  · exact absurd key1 c_1096
set_option maxRecDepth 10000 in
theorem l_shines {ro : Nat → Option (Nat × (Nat → Int32))} {K : gK} (hK : gClosed (gSafe 13) mL_law 14 lwPost lwX ro K) {b L : Nat} {xs : Nat → Int32} (hro : ro b = some (L, xs)) (hL : L ≤ 2048) {q : Nat} (hq : q + 3 < L) {a o : Nat} {n n' m : Nat → Nat} {S : CS} {i : Nat} (I : InvC S i) (hi : i ≤ 512) {h : gH} (A : LawAt h a o n n' m S) {w5 w6 w7 w8 : Option Value} {bc bs : Nat} (hbc : 80 ≤ bc) (hbs : 500 ≤ bs) (next : ∀ h' S' w5 w6 w7 w8 bc' bs', InvC S' (i + 1) → LawAt h' a o n n' m S' → bc ≤ bc' + 80 → bs ≤ bs' + 500 → K 1640 [some (.ref b), some (.ref a), some (.ref (m 0)), some (.ref o), some (.int (nI q)), w5, w6, w7, w8] [] h' bc' bs') : K 1121 [some (.ref b), some (.ref a), some (.ref (m 0)), some (.ref o), some (.int (nI q)), w5, w6, w7, w8] [] h bc bs := by
  obtain ⟨C, ⟨thr, lt, st, rw, M⟩, ⟨fo, O⟩, D⟩ := A
  have V := I.1
  refine s_aload_n hK dL_law_1121 rfl ?_
  refine s_ro hK (cc := 1) dL_law_1122 dL_law_1123 dL_law_1125 dL_law_1126 dL_law_1127 rfl rfl (by decide) hro (by omega) (by omega) ?_
  refine s_ro hK (cc := 2) dL_law_1128 dL_law_1129 dL_law_1131 dL_law_1132 dL_law_1133 rfl rfl (by decide) hro (by omega) (by omega) ?_
  refine s_aload_n hK dL_law_1134 rfl ?_
  refine s_W4 hK (mc := 4) (ms := 24) dL_law_1135 kW_L_134 (by rfl) (by omega) (by omega) ?_
  refine w_shines _ C V.1 O (by omega) (by omega) (fun h1 k f1 C1 O1 F1 R1 => ?_)
  have M1 := law_M M O C D F1
  have M0 := M1.own0
  refine s_istore hK dL_law_1138 rfl ?_
  refine s_aload_n hK dL_law_1140 rfl ?_
  refine s_ro hK (cc := 1) dL_law_1141 dL_law_1142 dL_law_1144 dL_law_1145 dL_law_1146 rfl rfl (by decide) hro (by omega) (by omega) ?_
  refine s_ro hK (cc := 2) dL_law_1147 dL_law_1148 dL_law_1150 dL_law_1151 dL_law_1152 rfl rfl (by decide) hro (by omega) (by omega) ?_
  refine s_V20 hK dL_law_1153 kV_L_136 (by first | assumption | exact H.1 | exact H.2.1) (by rfl) ?_
  refine c_shinesM _ M1 V.2.1 (T_D V.2.2.1) (fun h2 thr2 v2 lt2 st2 rw2 M2 F2 R2 => ?_)
  obtain ⟨C2, O2⟩ := law_C M1 O1 C1 D F2
  have M0 := M2.own0
  obtain ⟨key1, key2⟩ := ans_key cdB_ne R1 R2
  refine s_istore hK dL_law_1156 rfl ?_
  refine s_aload_n hK dL_law_1158 rfl ?_
  refine s_V00 hK dL_law_1159 kV_L_91 (by first | assumption | exact H.1 | exact H.2.1) (by rfl) ?_
  refine c_thrown _ M2 ?_
  refine s_iload hK dL_law_1162 rfl ?_
  refine s_icmpeq hK dL_law_1164 1169 (by decide) (fun c_1164 => ?_) (fun c_1164 => ?_)
  · refine s_iload hK dL_law_1169 rfl ?_
    refine s_ifne hK dL_law_1171 1186 (by decide) (fun c_1171 => ?_) (fun c_1171 => ?_)
    · refine s_goto hK dL_law_1186 1640 (by decide) ?_
      exact next h2 (fShines S (xs (q + 1)) (xs (q + 2))).2 _ _ _ _ _ _ (kShines I) ⟨C2, ⟨_, _, _, _, M2⟩, ⟨f1, O2⟩, D⟩ (by omega) (by omega)
    · have k0 : k = 0 := Decidable.of_not_not (by first | exact c_1171 | exact fun w => w c_1171)
      refine s_aload_n hK dL_law_1174 rfl ?_
      refine s_iconst hK (v := 0) dL_law_1175 (by decide) ?_
      refine s_laloadN hK (j := 0) dL_law_1176 O2 (by omega) (by omega) ?_
      rw [(key2 k0).1]
      refine s_iload hK dL_law_1177 rfl ?_
      refine s_i2l hK dL_law_1179 ?_
      refine s_lcmp hK dL_law_1180 ?_
      refine s_ifeq hK dL_law_1181 1186 (by decide) (fun c_1181 => ?_) (fun c_1181 => ?_)
      · refine s_goto hK dL_law_1186 1640 (by decide) ?_
        exact next h2 (fShines S (xs (q + 1)) (xs (q + 2))).2 _ _ _ _ _ _ (kShines I) ⟨C2, ⟨_, _, _, _, M2⟩, ⟨f1, O2⟩, D⟩ (by omega) (by omega)
      · exact absurd ((lg_cmp_eq _ _).mpr rfl) c_1181
  · exact absurd key1 c_1164
set_option maxRecDepth 10000 in
theorem l_way {ro : Nat → Option (Nat × (Nat → Int32))} {K : gK} (hK : gClosed (gSafe 13) mL_law 14 lwPost lwX ro K) {b L : Nat} {xs : Nat → Int32} (hro : ro b = some (L, xs)) (hL : L ≤ 2048) {q : Nat} (hq : q + 3 < L) {a o : Nat} {n n' m : Nat → Nat} {S : CS} {i : Nat} (I : InvC S i) (hi : i ≤ 512) {h : gH} (A : LawAt h a o n n' m S) {w5 w6 w7 w8 : Option Value} {bc bs : Nat} (hbc : 80 ≤ bc) (hbs : 500 ≤ bs) (next : ∀ h' S' w5 w6 w7 w8 bc' bs', InvC S' (i + 1) → LawAt h' a o n n' m S' → bc ≤ bc' + 80 → bs ≤ bs' + 500 → K 1640 [some (.ref b), some (.ref a), some (.ref (m 0)), some (.ref o), some (.int (nI q)), w5, w6, w7, w8] [] h' bc' bs') : K 1189 [some (.ref b), some (.ref a), some (.ref (m 0)), some (.ref o), some (.int (nI q)), w5, w6, w7, w8] [] h bc bs := by
  obtain ⟨C, ⟨thr, lt, st, rw, M⟩, ⟨fo, O⟩, D⟩ := A
  have V := I.1
  refine s_aload_n hK dL_law_1189 rfl ?_
  refine s_ro hK (cc := 1) dL_law_1190 dL_law_1191 dL_law_1193 dL_law_1194 dL_law_1195 rfl rfl (by decide) hro (by omega) (by omega) ?_
  refine s_ro hK (cc := 2) dL_law_1196 dL_law_1197 dL_law_1199 dL_law_1200 dL_law_1201 rfl rfl (by decide) hro (by omega) (by omega) ?_
  refine s_ro hK (cc := 3) dL_law_1202 dL_law_1203 dL_law_1205 dL_law_1206 dL_law_1207 rfl rfl (by decide) hro (by omega) (by omega) ?_
  refine s_aload_n hK dL_law_1208 rfl ?_
  refine s_W5 hK (mc := 4) (ms := 24) dL_law_1209 kW_L_137 (by rfl) (by omega) (by omega) ?_
  refine w_way _ C V.1 O (by omega) (by omega) (fun h1 k f1 C1 O1 F1 R1 => ?_)
  have M1 := law_M M O C D F1
  have M0 := M1.own0
  refine s_istore hK dL_law_1212 rfl ?_
  refine s_aload_n hK dL_law_1214 rfl ?_
  refine s_ro hK (cc := 1) dL_law_1215 dL_law_1216 dL_law_1218 dL_law_1219 dL_law_1220 rfl rfl (by decide) hro (by omega) (by omega) ?_
  refine s_ro hK (cc := 2) dL_law_1221 dL_law_1222 dL_law_1224 dL_law_1225 dL_law_1226 rfl rfl (by decide) hro (by omega) (by omega) ?_
  refine s_ro hK (cc := 3) dL_law_1227 dL_law_1228 dL_law_1230 dL_law_1231 dL_law_1232 rfl rfl (by decide) hro (by omega) (by omega) ?_
  refine s_V30 hK dL_law_1233 kV_L_139 (by first | assumption | exact H.1 | exact H.2.1) (by rfl) ?_
  refine c_wayM _ M1 V.1 V.2.1 (T_D V.2.2.1) V.2.2.2 (fun h2 thr2 v2 lt2 st2 rw2 M2 F2 R2 => ?_)
  obtain ⟨C2, O2⟩ := law_C M1 O1 C1 D F2
  have M0 := M2.own0
  obtain ⟨key1, key2⟩ := ans_key cdB_ne R1 R2
  refine s_istore hK dL_law_1236 rfl ?_
  refine s_aload_n hK dL_law_1238 rfl ?_
  refine s_V00 hK dL_law_1239 kV_L_91 (by first | assumption | exact H.1 | exact H.2.1) (by rfl) ?_
  refine c_thrown _ M2 ?_
  refine s_iload hK dL_law_1242 rfl ?_
  refine s_icmpeq hK dL_law_1244 1249 (by decide) (fun c_1244 => ?_) (fun c_1244 => ?_)
  · refine s_iload hK dL_law_1249 rfl ?_
    refine s_ifne hK dL_law_1251 1266 (by decide) (fun c_1251 => ?_) (fun c_1251 => ?_)
    · refine s_goto hK dL_law_1266 1640 (by decide) ?_
      exact next h2 (fWay S (xs (q + 1)) (xs (q + 2)) (xs (q + 3))).2 _ _ _ _ _ _ (kWay I) ⟨C2, ⟨_, _, _, _, M2⟩, ⟨f1, O2⟩, D⟩ (by omega) (by omega)
    · have k0 : k = 0 := Decidable.of_not_not (by first | exact c_1251 | exact fun w => w c_1251)
      refine s_aload_n hK dL_law_1254 rfl ?_
      refine s_iconst hK (v := 0) dL_law_1255 (by decide) ?_
      refine s_laloadN hK (j := 0) dL_law_1256 O2 (by omega) (by omega) ?_
      rw [(key2 k0).1]
      refine s_iload hK dL_law_1257 rfl ?_
      refine s_i2l hK dL_law_1259 ?_
      refine s_lcmp hK dL_law_1260 ?_
      refine s_ifeq hK dL_law_1261 1266 (by decide) (fun c_1261 => ?_) (fun c_1261 => ?_)
      · refine s_goto hK dL_law_1266 1640 (by decide) ?_
        exact next h2 (fWay S (xs (q + 1)) (xs (q + 2)) (xs (q + 3))).2 _ _ _ _ _ _ (kWay I) ⟨C2, ⟨_, _, _, _, M2⟩, ⟨f1, O2⟩, D⟩ (by omega) (by omega)
      · exact absurd ((lg_cmp_eq _ _).mpr rfl) c_1261
  · exact absurd key1 c_1244
set_option maxRecDepth 10000 in
theorem l_next {ro : Nat → Option (Nat × (Nat → Int32))} {K : gK} (hK : gClosed (gSafe 13) mL_law 14 lwPost lwX ro K) {b L : Nat} {xs : Nat → Int32} (hro : ro b = some (L, xs)) (hL : L ≤ 2048) {q : Nat} (hq : q + 3 < L) {a o : Nat} {n n' m : Nat → Nat} {S : CS} {i : Nat} (I : InvC S i) (hi : i ≤ 512) {h : gH} (A : LawAt h a o n n' m S) {w5 w6 w7 w8 : Option Value} {bc bs : Nat} (hbc : 80 ≤ bc) (hbs : 500 ≤ bs) (next : ∀ h' S' w5 w6 w7 w8 bc' bs', InvC S' (i + 1) → LawAt h' a o n n' m S' → bc ≤ bc' + 80 → bs ≤ bs' + 500 → K 1640 [some (.ref b), some (.ref a), some (.ref (m 0)), some (.ref o), some (.int (nI q)), w5, w6, w7, w8] [] h' bc' bs') : K 1269 [some (.ref b), some (.ref a), some (.ref (m 0)), some (.ref o), some (.int (nI q)), w5, w6, w7, w8] [] h bc bs := by
  obtain ⟨C, ⟨thr, lt, st, rw, M⟩, ⟨fo, O⟩, D⟩ := A
  have V := I.1
  refine s_aload_n hK dL_law_1269 rfl ?_
  refine s_ro hK (cc := 1) dL_law_1270 dL_law_1271 dL_law_1273 dL_law_1274 dL_law_1275 rfl rfl (by decide) hro (by omega) (by omega) ?_
  refine s_aload_n hK dL_law_1276 rfl ?_
  refine s_W3 hK (mc := 4) (ms := 24) dL_law_1277 kW_L_140 (by rfl) (by omega) (by omega) ?_
  refine w_next _ C V.1 O (by omega) (by omega) (fun h1 k f1 C1 O1 F1 R1 => ?_)
  have M1 := law_M M O C D F1
  have M0 := M1.own0
  refine s_istore hK dL_law_1280 rfl ?_
  refine s_aload_n hK dL_law_1282 rfl ?_
  refine s_ro hK (cc := 1) dL_law_1283 dL_law_1284 dL_law_1286 dL_law_1287 dL_law_1288 rfl rfl (by decide) hro (by omega) (by omega) ?_
  refine s_V10 hK dL_law_1289 kV_L_142 (by first | assumption | exact H.1 | exact H.2.1) (by rfl) ?_
  refine c_nextM _ M1 V.1 V.2.1 (T_D V.2.2.1) V.2.2.2 (fun h2 thr2 v2 lt2 st2 rw2 M2 F2 R2 => ?_)
  obtain ⟨C2, O2⟩ := law_C M1 O1 C1 D F2
  have M0 := M2.own0
  obtain ⟨key1, key2⟩ := ans_key cdB_ne R1 R2
  refine s_istore hK dL_law_1292 rfl ?_
  refine s_aload_n hK dL_law_1294 rfl ?_
  refine s_V00 hK dL_law_1295 kV_L_91 (by first | assumption | exact H.1 | exact H.2.1) (by rfl) ?_
  refine c_thrown _ M2 ?_
  refine s_iload hK dL_law_1298 rfl ?_
  refine s_icmpeq hK dL_law_1300 1305 (by decide) (fun c_1300 => ?_) (fun c_1300 => ?_)
  · refine s_iload hK dL_law_1305 rfl ?_
    refine s_ifne hK dL_law_1307 1322 (by decide) (fun c_1307 => ?_) (fun c_1307 => ?_)
    · refine s_goto hK dL_law_1322 1640 (by decide) ?_
      exact next h2 (fNext S (xs (q + 1))).2 _ _ _ _ _ _ (kNext I) ⟨C2, ⟨_, _, _, _, M2⟩, ⟨f1, O2⟩, D⟩ (by omega) (by omega)
    · have k0 : k = 0 := Decidable.of_not_not (by first | exact c_1307 | exact fun w => w c_1307)
      refine s_aload_n hK dL_law_1310 rfl ?_
      refine s_iconst hK (v := 0) dL_law_1311 (by decide) ?_
      refine s_laloadN hK (j := 0) dL_law_1312 O2 (by omega) (by omega) ?_
      rw [(key2 k0).1]
      refine s_iload hK dL_law_1313 rfl ?_
      refine s_i2l hK dL_law_1315 ?_
      refine s_lcmp hK dL_law_1316 ?_
      refine s_ifeq hK dL_law_1317 1322 (by decide) (fun c_1317 => ?_) (fun c_1317 => ?_)
      · refine s_goto hK dL_law_1322 1640 (by decide) ?_
        exact next h2 (fNext S (xs (q + 1))).2 _ _ _ _ _ _ (kNext I) ⟨C2, ⟨_, _, _, _, M2⟩, ⟨f1, O2⟩, D⟩ (by omega) (by omega)
      · exact absurd ((lg_cmp_eq _ _).mpr rfl) c_1317
  · exact absurd key1 c_1300
set_option maxRecDepth 10000 in
theorem l_pass {ro : Nat → Option (Nat × (Nat → Int32))} {K : gK} (hK : gClosed (gSafe 13) mL_law 14 lwPost lwX ro K) {b L : Nat} {xs : Nat → Int32} (hro : ro b = some (L, xs)) (hL : L ≤ 2048) {q : Nat} (hq : q + 3 < L) {a o : Nat} {n n' m : Nat → Nat} {S : CS} {i : Nat} (I : InvC S i) (hi : i ≤ 512) {h : gH} (A : LawAt h a o n n' m S) {w5 w6 w7 w8 : Option Value} {bc bs : Nat} (hbc : 80 ≤ bc) (hbs : 500 ≤ bs) (next : ∀ h' S' w5 w6 w7 w8 bc' bs', InvC S' (i + 1) → LawAt h' a o n n' m S' → bc ≤ bc' + 80 → bs ≤ bs' + 500 → K 1640 [some (.ref b), some (.ref a), some (.ref (m 0)), some (.ref o), some (.int (nI q)), w5, w6, w7, w8] [] h' bc' bs') : K 1325 [some (.ref b), some (.ref a), some (.ref (m 0)), some (.ref o), some (.int (nI q)), w5, w6, w7, w8] [] h bc bs := by
  obtain ⟨C, ⟨thr, lt, st, rw, M⟩, ⟨fo, O⟩, D⟩ := A
  have V := I.1
  refine s_aload_n hK dL_law_1325 rfl ?_
  refine s_ro hK (cc := 1) dL_law_1326 dL_law_1327 dL_law_1329 dL_law_1330 dL_law_1331 rfl rfl (by decide) hro (by omega) (by omega) ?_
  refine s_aload_n hK dL_law_1332 rfl ?_
  refine s_W3 hK (mc := 4) (ms := 24) dL_law_1333 kW_L_143 (by rfl) (by omega) (by omega) ?_
  refine w_pass _ C V.1 O (by omega) (by omega) (fun h1 k f1 C1 O1 F1 R1 => ?_)
  have M1 := law_M M O C D F1
  have M0 := M1.own0
  refine s_istore hK dL_law_1336 rfl ?_
  refine s_aload_n hK dL_law_1338 rfl ?_
  refine s_ro hK (cc := 1) dL_law_1339 dL_law_1340 dL_law_1342 dL_law_1343 dL_law_1344 rfl rfl (by decide) hro (by omega) (by omega) ?_
  refine s_V10 hK dL_law_1345 kV_L_145 (by first | assumption | exact H.1 | exact H.2.1) (by rfl) ?_
  refine c_passM _ M1 V (fun h2 thr2 v2 lt2 st2 rw2 M2 F2 R2 => ?_)
  obtain ⟨C2, O2⟩ := law_C M1 O1 C1 D F2
  have M0 := M2.own0
  obtain ⟨key1, key2⟩ := ans_key cdC_ne R1 R2
  refine s_istore hK dL_law_1348 rfl ?_
  refine s_aload_n hK dL_law_1350 rfl ?_
  refine s_V00 hK dL_law_1351 kV_L_91 (by first | assumption | exact H.1 | exact H.2.1) (by rfl) ?_
  refine c_thrown _ M2 ?_
  refine s_iload hK dL_law_1354 rfl ?_
  refine s_icmpeq hK dL_law_1356 1361 (by decide) (fun c_1356 => ?_) (fun c_1356 => ?_)
  · refine s_iload hK dL_law_1361 rfl ?_
    refine s_ifne hK dL_law_1363 1378 (by decide) (fun c_1363 => ?_) (fun c_1363 => ?_)
    · refine s_goto hK dL_law_1378 1640 (by decide) ?_
      exact next h2 (fPass S (xs (q + 1))).2 _ _ _ _ _ _ (iPass I) ⟨C2, ⟨_, _, _, _, M2⟩, ⟨f1, O2⟩, D⟩ (by omega) (by omega)
    · have k0 : k = 0 := Decidable.of_not_not (by first | exact c_1363 | exact fun w => w c_1363)
      refine s_aload_n hK dL_law_1366 rfl ?_
      refine s_iconst hK (v := 0) dL_law_1367 (by decide) ?_
      refine s_laloadN hK (j := 0) dL_law_1368 O2 (by omega) (by omega) ?_
      rw [(key2 k0).1]
      refine s_iload hK dL_law_1369 rfl ?_
      refine s_i2l hK dL_law_1371 ?_
      refine s_lcmp hK dL_law_1372 ?_
      refine s_ifeq hK dL_law_1373 1378 (by decide) (fun c_1373 => ?_) (fun c_1373 => ?_)
      · refine s_goto hK dL_law_1378 1640 (by decide) ?_
        exact next h2 (fPass S (xs (q + 1))).2 _ _ _ _ _ _ (iPass I) ⟨C2, ⟨_, _, _, _, M2⟩, ⟨f1, O2⟩, D⟩ (by omega) (by omega)
      · exact absurd ((lg_cmp_eq _ _).mpr rfl) c_1373
  · exact absurd key1 c_1356
set_option maxRecDepth 10000 in
theorem l_foresee {ro : Nat → Option (Nat × (Nat → Int32))} {K : gK} (hK : gClosed (gSafe 13) mL_law 14 lwPost lwX ro K) {b L : Nat} {xs : Nat → Int32} (hro : ro b = some (L, xs)) (hL : L ≤ 2048) {q : Nat} (hq : q + 3 < L) {a o : Nat} {n n' m : Nat → Nat} {S : CS} {i : Nat} (I : InvC S i) (hi : i ≤ 512) {h : gH} (A : LawAt h a o n n' m S) {w5 w6 w7 w8 : Option Value} {bc bs : Nat} (hbc : 80 ≤ bc) (hbs : 500 ≤ bs) (next : ∀ h' S' w5 w6 w7 w8 bc' bs', InvC S' (i + 1) → LawAt h' a o n n' m S' → bc ≤ bc' + 80 → bs ≤ bs' + 500 → K 1640 [some (.ref b), some (.ref a), some (.ref (m 0)), some (.ref o), some (.int (nI q)), w5, w6, w7, w8] [] h' bc' bs') : K 1381 [some (.ref b), some (.ref a), some (.ref (m 0)), some (.ref o), some (.int (nI q)), w5, w6, w7, w8] [] h bc bs := by
  obtain ⟨C, ⟨thr, lt, st, rw, M⟩, ⟨fo, O⟩, D⟩ := A
  have V := I.1
  refine s_aload_n hK dL_law_1381 rfl ?_
  refine s_ro hK (cc := 1) dL_law_1382 dL_law_1383 dL_law_1385 dL_law_1386 dL_law_1387 rfl rfl (by decide) hro (by omega) (by omega) ?_
  refine s_ro hK (cc := 2) dL_law_1388 dL_law_1389 dL_law_1391 dL_law_1392 dL_law_1393 rfl rfl (by decide) hro (by omega) (by omega) ?_
  refine s_aload_n hK dL_law_1394 rfl ?_
  refine s_W4 hK (mc := 4) (ms := 24) dL_law_1395 kW_L_146 (by rfl) (by omega) (by omega) ?_
  refine w_foresee _ C V.1 O (by omega) (by omega) (fun h1 k f1 C1 O1 F1 R1 => ?_)
  have M1 := law_M M O C D F1
  have M0 := M1.own0
  refine s_istore hK dL_law_1398 rfl ?_
  refine s_aload_n hK dL_law_1400 rfl ?_
  refine s_ro hK (cc := 1) dL_law_1401 dL_law_1402 dL_law_1404 dL_law_1405 dL_law_1406 rfl rfl (by decide) hro (by omega) (by omega) ?_
  refine s_ro hK (cc := 2) dL_law_1407 dL_law_1408 dL_law_1410 dL_law_1411 dL_law_1412 rfl rfl (by decide) hro (by omega) (by omega) ?_
  refine s_V2 hK (mc := 6) (ms := 172) dL_law_1413 kV_L_148 (by first | assumption | exact H.1 | exact H.2.1) (by rfl) (by omega) (by omega) ?_
  refine c_foreseeM _ M1 V (by omega) (by omega) (fun h2 thr2 v2 lt2 st2 rw2 M2 F2 R2 => ?_)
  obtain ⟨C2, O2⟩ := law_C M1 O1 C1 D F2
  have M0 := M2.own0
  obtain ⟨key1, key2⟩ := ans_key cdC_ne R1 R2
  refine s_istore hK dL_law_1416 rfl ?_
  refine s_aload_n hK dL_law_1418 rfl ?_
  refine s_V00 hK dL_law_1419 kV_L_91 (by first | assumption | exact H.1 | exact H.2.1) (by rfl) ?_
  refine c_thrown _ M2 ?_
  refine s_iload hK dL_law_1422 rfl ?_
  refine s_icmpeq hK dL_law_1424 1429 (by decide) (fun c_1424 => ?_) (fun c_1424 => ?_)
  · refine s_iload hK dL_law_1429 rfl ?_
    refine s_ifne hK dL_law_1431 1446 (by decide) (fun c_1431 => ?_) (fun c_1431 => ?_)
    · refine s_goto hK dL_law_1446 1640 (by decide) ?_
      exact next h2 (fForesee S (xs (q + 1)) (xs (q + 2))).2 _ _ _ _ _ _ (kForesee I) ⟨C2, ⟨_, _, _, _, M2⟩, ⟨f1, O2⟩, D⟩ (by omega) (by omega)
    · have k0 : k = 0 := Decidable.of_not_not (by first | exact c_1431 | exact fun w => w c_1431)
      refine s_aload_n hK dL_law_1434 rfl ?_
      refine s_iconst hK (v := 0) dL_law_1435 (by decide) ?_
      refine s_laloadN hK (j := 0) dL_law_1436 O2 (by omega) (by omega) ?_
      rw [(key2 k0).1]
      refine s_iload hK dL_law_1437 rfl ?_
      refine s_i2l hK dL_law_1439 ?_
      refine s_lcmp hK dL_law_1440 ?_
      refine s_ifeq hK dL_law_1441 1446 (by decide) (fun c_1441 => ?_) (fun c_1441 => ?_)
      · refine s_goto hK dL_law_1446 1640 (by decide) ?_
        exact next h2 (fForesee S (xs (q + 1)) (xs (q + 2))).2 _ _ _ _ _ _ (kForesee I) ⟨C2, ⟨_, _, _, _, M2⟩, ⟨f1, O2⟩, D⟩ (by omega) (by omega)
      · exact absurd ((lg_cmp_eq _ _).mpr rfl) c_1441
  · exact absurd key1 c_1424
set_option maxRecDepth 10000 in
theorem l_reaches {ro : Nat → Option (Nat × (Nat → Int32))} {K : gK} (hK : gClosed (gSafe 13) mL_law 14 lwPost lwX ro K) {b L : Nat} {xs : Nat → Int32} (hro : ro b = some (L, xs)) (hL : L ≤ 2048) {q : Nat} (hq : q + 3 < L) {a o : Nat} {n n' m : Nat → Nat} {S : CS} {i : Nat} (I : InvC S i) (hi : i ≤ 512) {h : gH} (A : LawAt h a o n n' m S) {w5 w6 w7 w8 : Option Value} {bc bs : Nat} (hbc : 80 ≤ bc) (hbs : 500 ≤ bs) (next : ∀ h' S' w5 w6 w7 w8 bc' bs', InvC S' (i + 1) → LawAt h' a o n n' m S' → bc ≤ bc' + 80 → bs ≤ bs' + 500 → K 1640 [some (.ref b), some (.ref a), some (.ref (m 0)), some (.ref o), some (.int (nI q)), w5, w6, w7, w8] [] h' bc' bs') : K 1449 [some (.ref b), some (.ref a), some (.ref (m 0)), some (.ref o), some (.int (nI q)), w5, w6, w7, w8] [] h bc bs := by
  obtain ⟨C, ⟨thr, lt, st, rw, M⟩, ⟨fo, O⟩, D⟩ := A
  have V := I.1
  refine s_aload_n hK dL_law_1449 rfl ?_
  refine s_ro hK (cc := 1) dL_law_1450 dL_law_1451 dL_law_1453 dL_law_1454 dL_law_1455 rfl rfl (by decide) hro (by omega) (by omega) ?_
  refine s_ro hK (cc := 2) dL_law_1456 dL_law_1457 dL_law_1459 dL_law_1460 dL_law_1461 rfl rfl (by decide) hro (by omega) (by omega) ?_
  refine s_ro hK (cc := 3) dL_law_1462 dL_law_1463 dL_law_1465 dL_law_1466 dL_law_1467 rfl rfl (by decide) hro (by omega) (by omega) ?_
  refine s_aload_n hK dL_law_1468 rfl ?_
  refine s_W5 hK (mc := 4) (ms := 24) dL_law_1469 kW_L_149 (by rfl) (by omega) (by omega) ?_
  refine w_reaches _ C V.1 O (by omega) (by omega) (fun h1 k f1 C1 O1 F1 R1 => ?_)
  have M1 := law_M M O C D F1
  have M0 := M1.own0
  refine s_istore hK dL_law_1472 rfl ?_
  refine s_aload_n hK dL_law_1474 rfl ?_
  refine s_ro hK (cc := 1) dL_law_1475 dL_law_1476 dL_law_1478 dL_law_1479 dL_law_1480 rfl rfl (by decide) hro (by omega) (by omega) ?_
  refine s_ro hK (cc := 2) dL_law_1481 dL_law_1482 dL_law_1484 dL_law_1485 dL_law_1486 rfl rfl (by decide) hro (by omega) (by omega) ?_
  refine s_ro hK (cc := 3) dL_law_1487 dL_law_1488 dL_law_1490 dL_law_1491 dL_law_1492 rfl rfl (by decide) hro (by omega) (by omega) ?_
  refine s_V3 hK (mc := 6) (ms := 172) dL_law_1493 kV_L_151 (by first | assumption | exact H.1 | exact H.2.1) (by rfl) (by omega) (by omega) ?_
  refine c_reachesM _ M1 V (by omega) (by omega) (fun h2 thr2 v2 lt2 st2 rw2 M2 F2 R2 => ?_)
  obtain ⟨C2, O2⟩ := law_C M1 O1 C1 D F2
  have M0 := M2.own0
  obtain ⟨key1, key2⟩ := ans_key cdB_ne R1 R2
  refine s_istore hK dL_law_1496 rfl ?_
  refine s_aload_n hK dL_law_1498 rfl ?_
  refine s_V00 hK dL_law_1499 kV_L_91 (by first | assumption | exact H.1 | exact H.2.1) (by rfl) ?_
  refine c_thrown _ M2 ?_
  refine s_iload hK dL_law_1502 rfl ?_
  refine s_icmpeq hK dL_law_1504 1509 (by decide) (fun c_1504 => ?_) (fun c_1504 => ?_)
  · refine s_iload hK dL_law_1509 rfl ?_
    refine s_ifne hK dL_law_1511 1526 (by decide) (fun c_1511 => ?_) (fun c_1511 => ?_)
    · refine s_goto hK dL_law_1526 1640 (by decide) ?_
      exact next h2 (fReaches S (xs (q + 1)) (xs (q + 2)) (xs (q + 3))).2 _ _ _ _ _ _ (kReaches I) ⟨C2, ⟨_, _, _, _, M2⟩, ⟨f1, O2⟩, D⟩ (by omega) (by omega)
    · have k0 : k = 0 := Decidable.of_not_not (by first | exact c_1511 | exact fun w => w c_1511)
      refine s_aload_n hK dL_law_1514 rfl ?_
      refine s_iconst hK (v := 0) dL_law_1515 (by decide) ?_
      refine s_laloadN hK (j := 0) dL_law_1516 O2 (by omega) (by omega) ?_
      rw [(key2 k0).1]
      refine s_iload hK dL_law_1517 rfl ?_
      refine s_i2l hK dL_law_1519 ?_
      refine s_lcmp hK dL_law_1520 ?_
      refine s_ifeq hK dL_law_1521 1526 (by decide) (fun c_1521 => ?_) (fun c_1521 => ?_)
      · refine s_goto hK dL_law_1526 1640 (by decide) ?_
        exact next h2 (fReaches S (xs (q + 1)) (xs (q + 2)) (xs (q + 3))).2 _ _ _ _ _ _ (kReaches I) ⟨C2, ⟨_, _, _, _, M2⟩, ⟨f1, O2⟩, D⟩ (by omega) (by omega)
      · exact absurd ((lg_cmp_eq _ _).mpr rfl) c_1521
  · exact absurd key1 c_1504
set_option maxRecDepth 10000 in
theorem l_advise {ro : Nat → Option (Nat × (Nat → Int32))} {K : gK} (hK : gClosed (gSafe 13) mL_law 14 lwPost lwX ro K) {b L : Nat} {xs : Nat → Int32} (hro : ro b = some (L, xs)) (hL : L ≤ 2048) {q : Nat} (hq : q + 3 < L) {a o : Nat} {n n' m : Nat → Nat} {S : CS} {i : Nat} (I : InvC S i) (hi : i ≤ 512) {h : gH} (A : LawAt h a o n n' m S) {w5 w6 w7 w8 : Option Value} {bc bs : Nat} (hbc : 80 ≤ bc) (hbs : 500 ≤ bs) (next : ∀ h' S' w5 w6 w7 w8 bc' bs', InvC S' (i + 1) → LawAt h' a o n n' m S' → bc ≤ bc' + 80 → bs ≤ bs' + 500 → K 1640 [some (.ref b), some (.ref a), some (.ref (m 0)), some (.ref o), some (.int (nI q)), w5, w6, w7, w8] [] h' bc' bs') : K 1529 [some (.ref b), some (.ref a), some (.ref (m 0)), some (.ref o), some (.int (nI q)), w5, w6, w7, w8] [] h bc bs := by
  obtain ⟨C, ⟨thr, lt, st, rw, M⟩, ⟨fo, O⟩, D⟩ := A
  have V := I.1
  refine s_aload_n hK dL_law_1529 rfl ?_
  refine s_ro hK (cc := 1) dL_law_1530 dL_law_1531 dL_law_1533 dL_law_1534 dL_law_1535 rfl rfl (by decide) hro (by omega) (by omega) ?_
  refine s_aload_n hK dL_law_1536 rfl ?_
  refine s_W3 hK (mc := 4) (ms := 24) dL_law_1537 kW_L_152 (by rfl) (by omega) (by omega) ?_
  refine w_advise _ C V.1 O (by omega) (by omega) (fun h1 k f1 C1 O1 F1 R1 => ?_)
  have M1 := law_M M O C D F1
  have M0 := M1.own0
  refine s_istore hK dL_law_1540 rfl ?_
  refine s_aload_n hK dL_law_1542 rfl ?_
  refine s_ro hK (cc := 1) dL_law_1543 dL_law_1544 dL_law_1546 dL_law_1547 dL_law_1548 rfl rfl (by decide) hro (by omega) (by omega) ?_
  refine s_V1 hK (mc := 69) (ms := 424) dL_law_1549 kV_L_154 (by first | assumption | exact H.1 | exact H.2.1) (by rfl) (by omega) (by omega) ?_
  refine c_adviseM _ M1 V (by have := I.2.2.2.2.2; omega) (by omega) (by omega) (fun h2 thr2 v2 lt2 st2 rw2 M2 F2 R2 => ?_)
  obtain ⟨C2, O2⟩ := law_C M1 O1 C1 D F2
  have M0 := M2.own0
  obtain ⟨key1, key2⟩ := ans_key cdC_ne R1 R2
  refine s_istore hK dL_law_1552 rfl ?_
  refine s_aload_n hK dL_law_1554 rfl ?_
  refine s_V00 hK dL_law_1555 kV_L_91 (by first | assumption | exact H.1 | exact H.2.1) (by rfl) ?_
  refine c_thrown _ M2 ?_
  refine s_iload hK dL_law_1558 rfl ?_
  refine s_icmpeq hK dL_law_1560 1565 (by decide) (fun c_1560 => ?_) (fun c_1560 => ?_)
  · refine s_iload hK dL_law_1565 rfl ?_
    refine s_ifne hK dL_law_1567 1582 (by decide) (fun c_1567 => ?_) (fun c_1567 => ?_)
    · refine s_goto hK dL_law_1582 1640 (by decide) ?_
      exact next h2 (fAdvise S (xs (q + 1))).2 _ _ _ _ _ _ (kAdvise I) ⟨C2, ⟨_, _, _, _, M2⟩, ⟨f1, O2⟩, D⟩ (by omega) (by omega)
    · have k0 : k = 0 := Decidable.of_not_not (by first | exact c_1567 | exact fun w => w c_1567)
      refine s_aload_n hK dL_law_1570 rfl ?_
      refine s_iconst hK (v := 0) dL_law_1571 (by decide) ?_
      refine s_laloadN hK (j := 0) dL_law_1572 O2 (by omega) (by omega) ?_
      rw [(key2 k0).1]
      refine s_iload hK dL_law_1573 rfl ?_
      refine s_i2l hK dL_law_1575 ?_
      refine s_lcmp hK dL_law_1576 ?_
      refine s_ifeq hK dL_law_1577 1582 (by decide) (fun c_1577 => ?_) (fun c_1577 => ?_)
      · refine s_goto hK dL_law_1582 1640 (by decide) ?_
        exact next h2 (fAdvise S (xs (q + 1))).2 _ _ _ _ _ _ (kAdvise I) ⟨C2, ⟨_, _, _, _, M2⟩, ⟨f1, O2⟩, D⟩ (by omega) (by omega)
      · exact absurd ((lg_cmp_eq _ _).mpr rfl) c_1577
  · exact absurd key1 c_1560
