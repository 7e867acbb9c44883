/-! the law: its own methods -/
def md_Lw_isArchive : Md := (yL_isArchive, cL_isArchive, 15, some .boolean, 5, 145, 0, 0)
theorem lk_L_80 : Lk md_SA_longestOrdered [.methodLink RL 80 md_SA_longestOrdered.y, .instanceMethod md_SA_longestOrdered.y, .selects md_SA_longestOrdered.y.cls md_SA_longestOrdered.y md_SA_longestOrdered.y] := lk_of (by decide +kernel)
theorem ar_SA_longestOrdered : Arity md_SA_longestOrdered 0 := ⟨by decide +kernel, by decide +kernel, by decide +kernel⟩
theorem lk_L_89 : Lk md_SA_swapsLeft [.methodLink RL 89 md_SA_swapsLeft.y, .instanceMethod md_SA_swapsLeft.y, .selects md_SA_swapsLeft.y.cls md_SA_swapsLeft.y md_SA_swapsLeft.y] := lk_of (by decide +kernel)
theorem ar_SA_swapsLeft : Arity md_SA_swapsLeft 0 := ⟨by decide +kernel, by decide +kernel, by decide +kernel⟩
theorem lk_L_95 : Lk md_SA_gap [.methodLink RL 95 md_SA_gap.y, .instanceMethod md_SA_gap.y, .selects md_SA_gap.y.cls md_SA_gap.y md_SA_gap.y] := lk_of (by decide +kernel)
theorem ar_SA_gap : Arity md_SA_gap 0 := ⟨by decide +kernel, by decide +kernel, by decide +kernel⟩
theorem lk_L_71 : Lk md_SA_cause [.methodLink RL 71 md_SA_cause.y, .instanceMethod md_SA_cause.y, .selects md_SA_cause.y.cls md_SA_cause.y md_SA_cause.y] := lk_of (by decide +kernel)
theorem ar_SA_cause : Arity md_SA_cause 2 := ⟨by decide +kernel, by decide +kernel, by decide +kernel⟩
theorem lk_L_74 : Lk md_SA_waitsFor [.methodLink RL 74 md_SA_waitsFor.y, .instanceMethod md_SA_waitsFor.y, .selects md_SA_waitsFor.y.cls md_SA_waitsFor.y md_SA_waitsFor.y] := lk_of (by decide +kernel)
theorem ar_SA_waitsFor : Arity md_SA_waitsFor 1 := ⟨by decide +kernel, by decide +kernel, by decide +kernel⟩
theorem lk_L_44 : Lk md_SA_reader [.methodLink RL 44 md_SA_reader.y, .instanceMethod md_SA_reader.y, .selects md_SA_reader.y.cls md_SA_reader.y md_SA_reader.y] := lk_of (by decide +kernel)
theorem ar_SA_reader : Arity md_SA_reader 2 := ⟨by decide +kernel, by decide +kernel, by decide +kernel⟩
theorem lk_L_59 : Lk md_SA_looks [.methodLink RL 59 md_SA_looks.y, .instanceMethod md_SA_looks.y, .selects md_SA_looks.y.cls md_SA_looks.y md_SA_looks.y] := lk_of (by decide +kernel)
theorem ar_SA_looks : Arity md_SA_looks 1 := ⟨by decide +kernel, by decide +kernel, by decide +kernel⟩
theorem lk_L_62 : Lk md_SA_lookedAt [.methodLink RL 62 md_SA_lookedAt.y, .instanceMethod md_SA_lookedAt.y, .selects md_SA_lookedAt.y.cls md_SA_lookedAt.y md_SA_lookedAt.y] := lk_of (by decide +kernel)
theorem ar_SA_lookedAt : Arity md_SA_lookedAt 2 := ⟨by decide +kernel, by decide +kernel, by decide +kernel⟩
theorem lk_L_65 : Lk md_SA_refilePlace [.methodLink RL 65 md_SA_refilePlace.y, .instanceMethod md_SA_refilePlace.y, .selects md_SA_refilePlace.y.cls md_SA_refilePlace.y md_SA_refilePlace.y] := lk_of (by decide +kernel)
theorem ar_SA_refilePlace : Arity md_SA_refilePlace 1 := ⟨by decide +kernel, by decide +kernel, by decide +kernel⟩
theorem lk_L_47 : Lk md_SA_marked [.methodLink RL 47 md_SA_marked.y, .instanceMethod md_SA_marked.y, .selects md_SA_marked.y.cls md_SA_marked.y md_SA_marked.y] := lk_of (by decide +kernel)
theorem ar_SA_marked : Arity md_SA_marked 1 := ⟨by decide +kernel, by decide +kernel, by decide +kernel⟩
theorem lk_L_53 : Lk md_SA_mostAsked [.methodLink RL 53 md_SA_mostAsked.y, .instanceMethod md_SA_mostAsked.y, .selects md_SA_mostAsked.y.cls md_SA_mostAsked.y md_SA_mostAsked.y] := lk_of (by decide +kernel)
theorem ar_SA_mostAsked : Arity md_SA_mostAsked 0 := ⟨by decide +kernel, by decide +kernel, by decide +kernel⟩
def Lw_isArchive_L457 : Nat → WM → Int32 → Int32 → Int32 → Int32 → Int32 → Int32 → Int32 → Int32 → Int32 → Int32 → Int32 → Option (Int32 × WM)
  | 0, _, _, _, _, _, _, _, _, _, _, _, _ => none
  | n + 1, M, v1_885, v2_886, v3_887, v4_888, v5_889, v6_890, v7_891, v8_892, v9_893, v10_894, v11_895 => Option.bind (SA_size M 9) fun q_896 => if q_896 ≤ v11_895 then (Option.bind (SA_inversions M) fun q_898 => Option.bind (SA_size M 10) fun q_899 => if q_899 = v7_891 then (lt' (fun (t_901 : Int32) => (lt' (fun (t_904 : Int32) => (if t_901 = t_904 then (lt' (fun (t_908 : Int32) => (Option.bind (SA_longestOrdered M) fun q_911 => lt' (fun (t_912 : Int32) => (if t_908 = t_912 then (lt' (fun (t_916 : Int32) => (Option.bind (SA_mostMisplaced q_911.2) fun q_919 => lt' (fun (t_920 : Int32) => (if t_916 = t_920 then (lt' ((Option.bind (SA_missedAfter q_911.2 99) fun q_926 => lt' ((Option.bind (SA_swapsLeft q_926.2) fun q_929 => if q_898 = q_929 then (Option.bind (SA_size q_926.2 7) fun q_931 => if v2_886 = q_931 then (if v8_892 = v2_886 then (Option.bind (SA_size q_926.2 8) fun q_934 => if v3_887 = q_934 then (Option.bind (SA_size q_926.2 5) fun q_936 => if (v1_885 + v2_886) + v3_887 = q_936 then (Option.bind (SA_account q_926.2 4) fun q_938 => if v4_888 = q_938 then (Option.bind (SA_account q_926.2 4) fun q_940 => if v9_893 = q_940 then (Option.bind (SA_size q_926.2 9) fun q_942 => if v5_889 = q_942 then (Option.bind (SA_missed q_926.2) fun q_944 => if v6_890 = q_944.1 then (Option.bind (SA_account q_944.2 6) fun q_946 => Option.bind (SA_account q_944.2 4) fun q_947 => if q_947 < q_946 then (some ((0, q_944.2))) else (Option.bind (SA_account q_944.2 4) fun q_949 => Option.bind (SA_size q_944.2 9) fun q_950 => Option.bind (SA_account q_944.2 3) fun q_951 => if q_951 < q_949 + q_950 then (some ((0, q_944.2))) else (Option.bind (SA_gap q_944.2) fun q_953 => if q_953 = 0 then (some ((1, q_944.2))) else (some ((0, q_944.2)))))) else (some ((0, q_944.2)))) else (some ((0, q_926.2)))) else (some ((0, q_926.2)))) else (some ((0, q_926.2)))) else (some ((0, q_926.2)))) else (some ((0, q_926.2)))) else (some ((0, q_926.2)))) else (some ((0, q_926.2)))) else (some ((0, q_926.2))) : Option (Int32 × WM))) fun c_927 => if q_926.1 ≤ 0 then (c_927) else (if q_898 ≤ 99 then (some ((0, q_926.2))) else (c_927)) : Option (Int32 × WM))) fun c_924 => if q_898 = 0 then (if 0 < v6_890 then (some ((0, q_911.2))) else (c_924)) else (c_924)) else (some ((0, q_911.2))) : Option (Int32 × WM))) fun c_921 => if 0 ≤ q_919 then (c_921 0) else (c_921 1) : Option (Int32 × WM))) fun c_917 => if q_898 = 0 then (c_917 1) else (c_917 0)) else (some ((0, q_911.2))) : Option (Int32 × WM))) fun c_913 => if q_911.1 = v1_885 then (c_913 1) else (c_913 0) : Option (Int32 × WM))) fun c_909 => if q_898 = 0 then (c_909 1) else (c_909 0)) else (some ((0, M))) : Option (Int32 × WM))) fun c_905 => if v7_891 = 0 then (c_905 1) else (c_905 0) : Option (Int32 × WM))) fun c_902 => if q_898 = 0 then (c_902 1) else (c_902 0)) else (some ((0, M)))) else (Option.bind (SA_waiting M v11_895 4) fun q_965 => Option.bind (SA_waiting M v11_895 1) fun q_966 => Option.bind (SA_waiting M v11_895 0) fun q_967 => lt' (fun (t_968 : Int32) => (Option.bind (SA_folder M q_966 2) fun q_971 => lt' (fun (t_972 : Int32) => (if t_968 = t_972 then (lt' (fun (t_976 : Int32) => (Option.bind (SA_folder M q_966 2) fun q_979 => lt' (fun (t_980 : Int32) => (if t_976 = t_980 then (lt' ((lt' ((lt' ((Option.bind (SA_waiting M v11_895 3) fun q_990 => if 2 < q_990 then (some ((0, M))) else (Option.bind (SA_waiting M v11_895 2) fun q_992 => Option.bind (SA_size M 0) fun q_993 => if q_993 < q_992 then (some ((0, M))) else (Option.bind (SA_why M q_967 q_966) fun q_995 => if q_995 = (-3) then (Option.bind (SA_cause M q_967 q_966) fun q_997 => if q_997 = v11_895 then (lt' (fun (t_999 : Int32) => (lt' (fun (t_1002 : Int32) => (if t_999 = t_1002 then (Lw_isArchive_L457 n M v1_885 v2_886 v3_887 v4_888 v5_889 v6_890 v7_891 v8_892 v9_893 v10_894 (v11_895 + 1)) else (some ((0, M))) : Option (Int32 × WM))) fun c_1003 => if 0 ≤ SA_waitsFor M v11_895 then (c_1003 0) else (c_1003 1) : Option (Int32 × WM))) fun c_1000 => if q_965 = 0 then (c_1000 1) else (c_1000 0)) else (some ((0, M)))) else (some ((0, M))))) : Option (Int32 × WM))) fun c_988 => if q_965 = 0 then (Option.bind (SA_folder M q_966 6) fun q_1009 => if q_1009 = 1 then (some ((0, M))) else (Option.bind (SA_reader M q_967 0) fun q_1011 => if v10_894 ≤ q_1011 then (some ((0, M))) else (c_988))) else (c_988) : Option (Int32 × WM))) fun c_986 => if q_965 = 4 then (Option.bind (SA_reader M q_967 0) fun q_1014 => if q_1014 < v10_894 then (some ((0, M))) else (c_986)) else (c_986) : Option (Int32 × WM))) fun c_984 => if q_965 = 3 then (Option.bind (SA_folder M q_966 6) fun q_1017 => if q_1017 = 0 then (some ((0, M))) else (c_984)) else (c_984)) else (some ((0, M))) : Option (Int32 × WM))) fun c_981 => if q_979 = 2 then (c_981 1) else (c_981 0) : Option (Int32 × WM))) fun c_977 => if q_965 = 2 then (c_977 1) else (c_977 0)) else (some ((0, M))) : Option (Int32 × WM))) fun c_973 => if q_971 = 1 then (c_973 1) else (c_973 0) : Option (Int32 × WM))) fun c_969 => if q_965 = 1 then (c_969 1) else (c_969 0))
def Lw_isArchive_L400 : Nat → WM → Int32 → Int32 → Int32 → Int32 → Int32 → Int32 → Int32 → Int32 → Int32 → Int32 → Int32 → Option (Int32 × WM)
  | 0, _, _, _, _, _, _, _, _, _, _, _, _ => none
  | n + 1, M, v1_872, v2_873, v3_874, v4_875, v5_876, v6_877, v7_878, v8_879, v9_880, v10_881, v11_882 => Option.bind (SA_size M 3) fun q_883 => if q_883 ≤ v11_882 then (Lw_isArchive_L457 FU M v1_872 v2_873 v3_874 v4_875 v5_876 v6_877 v7_878 v8_879 v9_880 v10_881 0) else (Option.bind (SA_reader M v11_882 2) fun q_1023 => lt' (v9_880 + q_1023) fun v9_1024 => Option.bind (SA_reader M v11_882 0) fun q_1025 => lt' (v8_879 + q_1025) fun v8_1026 => Option.bind (SA_reader M v11_882 0) fun q_1027 => if q_1027 ≤ v10_881 then (Lw_isArchive_L400 n M v1_872 v2_873 v3_874 v4_875 v5_876 v6_877 v7_878 v8_1026 v9_1024 v10_881 (v11_882 + 1)) else (some ((0, M))))
def Lw_isArchive_L202 : Nat → WM → Int32 → Int32 → Int32 → Int32 → Int32 → Int32 → Int32 → Int32 → Option (Int32 × WM)
  | 0, _, _, _, _, _, _, _, _, _ => none
  | n + 1, M, v1_862, v2_863, v3_864, v4_865, v5_866, v6_867, v7_868, v8_869 => if v1_862 ≤ v8_869 then (Option.bind (SA_size M 4) fun q_871 => Lw_isArchive_L400 FU M v1_862 v2_863 v3_864 v4_865 v5_866 v6_867 v7_868 0 0 q_871 0) else (lt' (SA_at M v8_869) fun v9_1029 => Option.bind (SA_folder M v9_1029 0) fun q_1030 => Option.bind (SA_found M q_1030) fun q_1031 => lt' (q_1031.1) fun v11_1032 => Option.bind (SA_looks q_1031.2 q_1030) fun q_1033 => lt' (q_1033.1) fun v12_1034 => lt' (fun (t_1035 : Int32) => (lt' (v6_867 + t_1035) fun v6_1038 => lt' (fun (t_1039 : Int32) => (lt' (v7_868 + t_1039) fun v7_1042 => lt' (fun (M_1043 : WM) => (lt' (fun (M_1046 : WM) => (if v12_1034 < 1 then (some ((0, M_1046))) else (if 5 < v12_1034 then (some ((0, M_1046))) else (Option.bind (SA_lookedAt M_1046 q_1030 v12_1034) fun q_1051 => if q_1051.1 = (-1) then (Lw_isArchive_L202 n q_1051.2 v1_862 v2_863 v3_864 v4_865 v5_866 v6_1038 v7_1042 (v8_869 + 1)) else (some ((0, q_1051.2))))) : Option (Int32 × WM))) fun c_1047 => if 0 ≤ v11_1032 then (c_1047 M_1043) else (if v12_1034 ≤ 0 then (c_1047 M_1043) else (Option.bind (SA_lookedAt M_1043 q_1030 (v12_1034 - 1)) fun q_1055 => if q_1055.1 = v9_1029 then (some ((0, q_1055.2))) else (c_1047 q_1055.2))) : Option (Int32 × WM))) fun c_1044 => if v11_1032 < 0 then (c_1044 q_1033.2) else (if v11_1032 = v8_869 then (Option.bind (SA_lookedAt q_1033.2 q_1030 (v12_1034 - 1)) fun q_1059 => if q_1059.1 = v9_1029 then (Option.bind (SA_refilePlace q_1059.2 q_1030) fun q_1061 => if q_1061.1 = v8_869 then (c_1044 q_1061.2) else (some ((0, q_1061.2)))) else (some ((0, q_1059.2)))) else (some ((0, q_1033.2)))) : Option (Int32 × WM))) fun c_1040 => lt' ((c_1040 0 : Option (Int32 × WM))) fun c_1063 => if v8_869 ≤ 0 then (c_1063) else (Option.bind (SA_folder q_1033.2 (SA_at q_1033.2 (v8_869 - 1)) 0) fun q_1066 => if q_1066 ≤ q_1030 then (c_1063) else (c_1040 1)) : Option (Int32 × WM))) fun c_1036 => if 0 ≤ v11_1032 then (c_1036 0) else (c_1036 1))
def Lw_isArchive_L20 : Nat → WM → Int32 → Int32 → Int32 → Int32 → Int32 → Int32 → Option (Int32 × WM)
  | 0, _, _, _, _, _, _, _ => none
  | n + 1, M, v1_854, v2_855, v3_856, v4_857, v5_858, v6_859 => Option.bind (SA_size M 5) fun q_860 => if q_860 ≤ v6_859 then (Lw_isArchive_L202 FU M v1_854 v2_855 v3_856 v4_857 v5_858 0 0 0) else (Option.bind (SA_folder M v6_859 2) fun q_1069 => lt' (fun (t_1070 : Int32) => (lt' (v2_855 + t_1070) fun v2_1073 => lt' (fun (t_1074 : Int32) => (lt' (v3_856 + t_1074) fun v3_1077 => Option.bind (SA_folder M v6_859 5) fun q_1078 => lt' (v4_857 + q_1078) fun v4_1079 => Option.bind (SA_folder M v6_859 4) fun q_1080 => lt' (v5_858 + q_1080) fun v5_1081 => Option.bind (SA_folder M v6_859 0) fun q_1082 => if SA_marked M q_1082 = v6_859 then (lt' ((Option.bind (SA_folder M v6_859 6) fun q_1086 => lt' (fun (t_1087 : Int32) => (Option.bind (SA_size M 0) fun q_1090 => Option.bind (SA_folder M v6_859 1) fun q_1091 => lt' (fun (t_1092 : Int32) => (if t_1087 = t_1092 then (Option.bind (SA_folder M v6_859 4) fun q_1096 => lt' ((Lw_isArchive_L20 n M v1_854 v2_1073 v3_1077 v4_1079 v5_1081 (v6_859 + 1) : Option (Int32 × WM))) fun c_1097 => if q_1096 ≤ 0 then (c_1097) else (Option.bind (SA_mostAsked M) fun q_1100 => if 0 ≤ q_1100 then (c_1097) else (some ((0, M))))) else (some ((0, M))) : Option (Int32 × WM))) fun c_1093 => if q_1091 ≤ q_1090 then (c_1093 0) else (c_1093 1) : Option (Int32 × WM))) fun c_1088 => if q_1086 = 1 then (c_1088 1) else (c_1088 0) : Option (Int32 × WM))) fun c_1084 => if q_1069 = 0 then (Option.bind (SA_folder M v6_859 3) fun q_1105 => if SA_at M q_1105 = v6_859 then (c_1084) else (some ((0, M)))) else (c_1084)) else (some ((0, M))) : Option (Int32 × WM))) fun c_1075 => if q_1069 = 2 then (c_1075 1) else (c_1075 0) : Option (Int32 × WM))) fun c_1071 => if q_1069 = 1 then (c_1071 1) else (c_1071 0))
def Lw_isArchive (M : WM) : Option (Int32 × WM) := Option.bind (SA_size M 6) fun q_853 => Lw_isArchive_L20 FU M q_853 0 0 0 0 0
set_option maxRecDepth 100000 in
set_option maxHeartbeats 4000000 in
theorem w_Lw_isArchive_L457 {ad ae : Nat → Nat} {X : Cx} {l : Launch} {g : Gl} (hx : Ok X l g RL cL_isArchive 15 md_Lw_isArchive.rm) (hC : KAll g ad ae) {σ : Hp} {B : Nat} {r : Int32 × WM} (hR : Ret X (rs (some (.int r.1)) (putW σ B ae r.2)) 0 0 (some .boolean)) : ∀ (n : Nat) (M : WM) (v1_885 v2_886 v3_887 v4_888 v5_889 v6_890 v7_891 v8_892 v9_893 v10_894 v11_895 : Int32), Lw_isArchive_L457 n M v1_885 v2_886 v3_887 v4_888 v5_889 v6_890 v7_891 v8_892 v9_893 v10_894 v11_895 = some r → G X (putW σ B ae M) 0 0 457 [(0, .ref B), (1, .int v1_885), (2, .int v2_886), (3, .int v3_887), (4, .int v4_888), (5, .int v5_889), (6, .int v6_890), (7, .int v7_891), (8, .int v8_892), (9, .int v9_893), (10, .int v10_894), (11, .int v11_895)] [] := by
  intro n
  induction n with
  | zero =>
    intro M v1_885 v2_886 v3_887 v4_888 v5_889 v6_890 v7_891 v8_892 v9_893 v10_894 v11_895 hr
    rw [Lw_isArchive_L457] at hr
    cases hr
  | succ n ih =>
    intro M v1_885 v2_886 v3_887 v4_888 v5_889 v6_890 v7_891 v8_892 v9_893 v10_894 v11_895 hr
    rw [Lw_isArchive_L457] at hr
    refine g_iload hx 457 (i := 11) 11 dL_isArchive_457 rfl ?_
    refine g_aload_n hx 459 (i := 0) 0 dL_isArchive_459 rfl rfl ?_
    refine g_bipush hx 460 (9) dL_isArchive_460 rfl ?_
    obtain ⟨q_896, eq_896, hr⟩ := bind_e hr
    refine g_callVr hx (c_SA_size l g hC σ B M 9 eq_896) lk_L_30 ar_SA_size (pW σ B ae M 0 (by decide)) (T := TX10) (N := 11) rfl (As := [.int 9]) (rest := [.int v11_895]) rfl (Nat.le_of_ble_eq_true rfl) ⟨Nat.le_of_ble_eq_true rfl, Nat.le_of_ble_eq_true rfl⟩ ⟨rfl, rfl⟩ ⟨Nat.zero_le _, Nat.zero_le _⟩ dL_isArchive_462 ?_
    refine g_icmp_ge hx 465 706 dL_isArchive_465 (by decide) (fun hc_897 => ?_) (fun hc_897 => ?_)
    · have hr := (if_pos hc_897).symm.trans hr
      refine g_aload_n hx 706 (i := 0) 0 dL_isArchive_706 rfl rfl ?_
      obtain ⟨q_898, eq_898, hr⟩ := bind_e hr
      refine g_callVr hx (c_SA_inversions l g hC σ B M eq_898) lk_L_77 ar_SA_inversions (pW σ B ae M 0 (by decide)) (T := TX10) (N := 11) rfl (As := []) (rest := []) rfl (Nat.le_of_ble_eq_true rfl) ⟨Nat.le_of_ble_eq_true rfl, Nat.le_of_ble_eq_true rfl⟩ ⟨rfl, rfl⟩ ⟨Nat.zero_le _, Nat.zero_le _⟩ dL_isArchive_707 ?_
      refine g_istore hx 710 (i := 11) [(11, .int q_898), (0, .ref B), (1, .int v1_885), (2, .int v2_886), (3, .int v3_887), (4, .int v4_888), (5, .int v5_889), (6, .int v6_890), (7, .int v7_891), (8, .int v8_892), (9, .int v9_893), (10, .int v10_894)] dL_isArchive_710 (by decide) rfl ?_
      refine g_aload_n hx 712 (i := 0) 1 dL_isArchive_712 rfl rfl ?_
      refine g_bipush hx 713 (10) dL_isArchive_713 rfl ?_
      obtain ⟨q_899, eq_899, hr⟩ := bind_e hr
      refine g_callVr hx (c_SA_size l g hC σ B M 10 eq_899) lk_L_30 ar_SA_size (pW σ B ae M 0 (by decide)) (T := TX10) (N := 11) rfl (As := [.int 10]) (rest := []) rfl (Nat.le_of_ble_eq_true rfl) ⟨Nat.le_of_ble_eq_true rfl, Nat.le_of_ble_eq_true rfl⟩ ⟨rfl, rfl⟩ ⟨Nat.zero_le _, Nat.zero_le _⟩ dL_isArchive_715 ?_
      refine g_iload hx 718 (i := 7) 8 dL_isArchive_718 rfl ?_
      refine g_icmp_ne hx 720 832 dL_isArchive_720 (by decide) (fun hc_900 => ?_) (fun hc_900 => ?_)
      · have hr := (if_neg hc_900).symm.trans hr
        refine g_iconst hx 832 (0) dL_isArchive_832 rfl ?_
        exact g_zret hx hR 833 (Or.inl rfl) dL_isArchive_833 ⟨by rw [← Option.some.inj hr] <;> rfl, by rw [← Option.some.inj hr] <;> rfl⟩
      · have hr := (if_pos hc_900).symm.trans hr
        refine g_iload hx 723 (i := 11) 0 dL_isArchive_723 rfl ?_
        obtain ⟨c_902, ec_902, hr⟩ := lt'_e hr
        have J_903 : ∀ (t_901 : Int32), c_902 t_901 = some r → G X (putW σ B ae M) 0 0 733 [(0, .ref B), (1, .int v1_885), (2, .int v2_886), (3, .int v3_887), (4, .int v4_888), (5, .int v5_889), (6, .int v6_890), (7, .int v7_891), (8, .int v8_892), (9, .int v9_893), (11, .int q_898)] [.int t_901] := by
          intro t_901 hr
          have hr := (congrFun ec_902 t_901).symm.trans hr
          refine g_iload hx 733 (i := 7) 7 dL_isArchive_733 rfl ?_
          obtain ⟨c_905, ec_905, hr⟩ := lt'_e hr
          have J_906 : ∀ (t_904 : Int32), c_905 t_904 = some r → G X (putW σ B ae M) 0 0 743 [(0, .ref B), (1, .int v1_885), (2, .int v2_886), (3, .int v3_887), (4, .int v4_888), (5, .int v5_889), (6, .int v6_890), (8, .int v8_892), (9, .int v9_893), (11, .int q_898)] [.int t_904, .int t_901] := by
            intro t_904 hr
            have hr := (congrFun ec_905 t_904).symm.trans hr
            refine g_icmp_ne hx 743 832 dL_isArchive_743 (by decide) (fun hc_907 => ?_) (fun hc_907 => ?_)
            · have hr := (if_neg hc_907).symm.trans hr
              refine g_iconst hx 832 (0) dL_isArchive_832 rfl ?_
              exact g_zret hx hR 833 (Or.inl rfl) dL_isArchive_833 ⟨by rw [← Option.some.inj hr] <;> rfl, by rw [← Option.some.inj hr] <;> rfl⟩
            · have hr := (if_pos hc_907).symm.trans hr
              refine g_iload hx 746 (i := 11) 9 dL_isArchive_746 rfl ?_
              obtain ⟨c_909, ec_909, hr⟩ := lt'_e hr
              have J_910 : ∀ (t_908 : Int32), c_909 t_908 = some r → G X (putW σ B ae M) 0 0 756 [(0, .ref B), (1, .int v1_885), (2, .int v2_886), (3, .int v3_887), (4, .int v4_888), (5, .int v5_889), (6, .int v6_890), (8, .int v8_892), (9, .int v9_893), (11, .int q_898)] [.int t_908] := by
                intro t_908 hr
                have hr := (congrFun ec_909 t_908).symm.trans hr
                refine g_aload_n hx 756 (i := 0) 0 dL_isArchive_756 rfl rfl ?_
                obtain ⟨q_911, eq_911, hr⟩ := bind_e hr
                refine g_callVr hx (c_SA_longestOrdered l g hC σ B M eq_911) lk_L_80 ar_SA_longestOrdered (pW σ B ae M 0 (by decide)) (T := TX10) (N := 11) rfl (As := []) (rest := [.int t_908]) rfl (Nat.le_of_ble_eq_true rfl) ⟨Nat.le_of_ble_eq_true rfl, Nat.le_of_ble_eq_true rfl⟩ ⟨rfl, rfl⟩ ⟨Nat.zero_le _, Nat.zero_le _⟩ dL_isArchive_757 ?_
                refine g_iload_n hx 760 (i := 1) 1 dL_isArchive_760 rfl rfl ?_
                obtain ⟨c_913, ec_913, hr⟩ := lt'_e hr
                have J_914 : ∀ (t_912 : Int32), c_913 t_912 = some r → G X (putW σ B ae q_911.2) 0 0 769 [(0, .ref B), (1, .int v1_885), (2, .int v2_886), (3, .int v3_887), (4, .int v4_888), (5, .int v5_889), (6, .int v6_890), (8, .int v8_892), (9, .int v9_893), (11, .int q_898)] [.int t_912, .int t_908] := by
                  intro t_912 hr
                  have hr := (congrFun ec_913 t_912).symm.trans hr
                  refine g_icmp_ne hx 769 832 dL_isArchive_769 (by decide) (fun hc_915 => ?_) (fun hc_915 => ?_)
                  · have hr := (if_neg hc_915).symm.trans hr
                    refine g_iconst hx 832 (0) dL_isArchive_832 rfl ?_
                    exact g_zret hx hR 833 (Or.inl rfl) dL_isArchive_833 ⟨by rw [← Option.some.inj hr] <;> rfl, by rw [← Option.some.inj hr] <;> rfl⟩
                  · have hr := (if_pos hc_915).symm.trans hr
                    refine g_iload hx 772 (i := 11) 9 dL_isArchive_772 rfl ?_
                    obtain ⟨c_917, ec_917, hr⟩ := lt'_e hr
                    have J_918 : ∀ (t_916 : Int32), c_917 t_916 = some r → G X (putW σ B ae q_911.2) 0 0 782 [(0, .ref B), (1, .int v1_885), (2, .int v2_886), (3, .int v3_887), (4, .int v4_888), (5, .int v5_889), (6, .int v6_890), (8, .int v8_892), (9, .int v9_893), (11, .int q_898)] [.int t_916] := by
                      intro t_916 hr
                      have hr := (congrFun ec_917 t_916).symm.trans hr
                      refine g_aload_n hx 782 (i := 0) 0 dL_isArchive_782 rfl rfl ?_
                      obtain ⟨q_919, eq_919, hr⟩ := bind_e hr
                      refine g_callVr hx (c_SA_mostMisplaced l g hC σ B q_911.2 eq_919) lk_L_83 ar_SA_mostMisplaced (pW σ B ae q_911.2 0 (by decide)) (T := TX10) (N := 11) rfl (As := []) (rest := [.int t_916]) rfl (Nat.le_of_ble_eq_true rfl) ⟨Nat.le_of_ble_eq_true rfl, Nat.le_of_ble_eq_true rfl⟩ ⟨rfl, rfl⟩ ⟨Nat.zero_le _, Nat.zero_le _⟩ dL_isArchive_783 ?_
                      obtain ⟨c_921, ec_921, hr⟩ := lt'_e hr
                      have J_922 : ∀ (t_920 : Int32), c_921 t_920 = some r → G X (putW σ B ae q_911.2) 0 0 794 [(0, .ref B), (1, .int v1_885), (2, .int v2_886), (3, .int v3_887), (4, .int v4_888), (5, .int v5_889), (6, .int v6_890), (8, .int v8_892), (9, .int v9_893), (11, .int q_898)] [.int t_920, .int t_916] := by
                        intro t_920 hr
                        have hr := (congrFun ec_921 t_920).symm.trans hr
                        refine g_icmp_ne hx 794 832 dL_isArchive_794 (by decide) (fun hc_923 => ?_) (fun hc_923 => ?_)
                        · have hr := (if_neg hc_923).symm.trans hr
                          refine g_iconst hx 832 (0) dL_isArchive_832 rfl ?_
                          exact g_zret hx hR 833 (Or.inl rfl) dL_isArchive_833 ⟨by rw [← Option.some.inj hr] <;> rfl, by rw [← Option.some.inj hr] <;> rfl⟩
                        · have hr := (if_pos hc_923).symm.trans hr
                          refine g_iload hx 797 (i := 11) 9 dL_isArchive_797 rfl ?_
                          obtain ⟨c_924, ec_924, hr⟩ := lt'_e hr
                          have J_925 : c_924 = some r → G X (putW σ B ae q_911.2) 0 0 807 [(0, .ref B), (1, .int v1_885), (2, .int v2_886), (3, .int v3_887), (4, .int v4_888), (5, .int v5_889), (6, .int v6_890), (8, .int v8_892), (9, .int v9_893), (11, .int q_898)] [] := by
                            intro hr
                            have hr := ec_924.symm.trans hr
                            refine g_aload_n hx 807 (i := 0) 0 dL_isArchive_807 rfl rfl ?_
                            refine g_bipush hx 808 (99) dL_isArchive_808 rfl ?_
                            obtain ⟨q_926, eq_926, hr⟩ := bind_e hr
                            refine g_callVr hx (c_SA_missedAfter l g hC σ B q_911.2 99 eq_926) lk_L_86 ar_SA_missedAfter (pW σ B ae q_911.2 0 (by decide)) (T := TX10) (N := 11) rfl (As := [.int 99]) (rest := []) rfl (Nat.le_of_ble_eq_true rfl) ⟨Nat.le_of_ble_eq_true rfl, Nat.le_of_ble_eq_true rfl⟩ ⟨rfl, rfl⟩ ⟨Nat.zero_le _, Nat.zero_le _⟩ dL_isArchive_810 ?_
                            obtain ⟨c_927, ec_927, hr⟩ := lt'_e hr
                            have J_928 : c_927 = some r → G X (putW σ B ae q_926.2) 0 0 823 [(0, .ref B), (1, .int v1_885), (2, .int v2_886), (3, .int v3_887), (4, .int v4_888), (5, .int v5_889), (6, .int v6_890), (8, .int v8_892), (9, .int v9_893), (11, .int q_898)] [] := by
                              intro hr
                              have hr := ec_927.symm.trans hr
                              refine g_iload hx 823 (i := 11) 9 dL_isArchive_823 rfl ?_
                              refine g_aload_n hx 825 (i := 0) 0 dL_isArchive_825 rfl rfl ?_
                              obtain ⟨q_929, eq_929, hr⟩ := bind_e hr
                              refine g_callVr hx (c_SA_swapsLeft l g hC σ B q_926.2 eq_929) lk_L_89 ar_SA_swapsLeft (pW σ B ae q_926.2 0 (by decide)) (T := TX10) (N := 11) rfl (As := []) (rest := [.int q_898]) rfl (Nat.le_of_ble_eq_true rfl) ⟨Nat.le_of_ble_eq_true rfl, Nat.le_of_ble_eq_true rfl⟩ ⟨rfl, rfl⟩ ⟨Nat.zero_le _, Nat.zero_le _⟩ dL_isArchive_826 ?_
                              refine g_icmp_eq hx 829 834 dL_isArchive_829 (by decide) (fun hc_930 => ?_) (fun hc_930 => ?_)
                              · have hr := (if_pos hc_930).symm.trans hr
                                refine g_iload_n hx 834 (i := 2) 2 dL_isArchive_834 rfl rfl ?_
                                refine g_aload_n hx 835 (i := 0) 0 dL_isArchive_835 rfl rfl ?_
                                refine g_bipush hx 836 (7) dL_isArchive_836 rfl ?_
                                obtain ⟨q_931, eq_931, hr⟩ := bind_e hr
                                refine g_callVr hx (c_SA_size l g hC σ B q_926.2 7 eq_931) lk_L_30 ar_SA_size (pW σ B ae q_926.2 0 (by decide)) (T := TX10) (N := 11) rfl (As := [.int 7]) (rest := [.int v2_886]) rfl (Nat.le_of_ble_eq_true rfl) ⟨Nat.le_of_ble_eq_true rfl, Nat.le_of_ble_eq_true rfl⟩ ⟨rfl, rfl⟩ ⟨Nat.zero_le _, Nat.zero_le _⟩ dL_isArchive_838 ?_
                                refine g_icmp_ne hx 841 958 dL_isArchive_841 (by decide) (fun hc_932 => ?_) (fun hc_932 => ?_)
                                · have hr := (if_neg hc_932).symm.trans hr
                                  refine g_iconst hx 958 (0) dL_isArchive_958 rfl ?_
                                  exact g_zret hx hR 959 (Or.inl rfl) dL_isArchive_959 ⟨by rw [← Option.some.inj hr] <;> rfl, by rw [← Option.some.inj hr] <;> rfl⟩
                                · have hr := (if_pos hc_932).symm.trans hr
                                  refine g_iload hx 844 (i := 8) 7 dL_isArchive_844 rfl ?_
                                  refine g_iload_n hx 846 (i := 2) 2 dL_isArchive_846 rfl rfl ?_
                                  refine g_icmp_ne hx 847 958 dL_isArchive_847 (by decide) (fun hc_933 => ?_) (fun hc_933 => ?_)
                                  · have hr := (if_neg hc_933).symm.trans hr
                                    refine g_iconst hx 958 (0) dL_isArchive_958 rfl ?_
                                    exact g_zret hx hR 959 (Or.inl rfl) dL_isArchive_959 ⟨by rw [← Option.some.inj hr] <;> rfl, by rw [← Option.some.inj hr] <;> rfl⟩
                                  · have hr := (if_pos hc_933).symm.trans hr
                                    refine g_iload_n hx 850 (i := 3) 3 dL_isArchive_850 rfl rfl ?_
                                    refine g_aload_n hx 851 (i := 0) 0 dL_isArchive_851 rfl rfl ?_
                                    refine g_bipush hx 852 (8) dL_isArchive_852 rfl ?_
                                    obtain ⟨q_934, eq_934, hr⟩ := bind_e hr
                                    refine g_callVr hx (c_SA_size l g hC σ B q_926.2 8 eq_934) lk_L_30 ar_SA_size (pW σ B ae q_926.2 0 (by decide)) (T := TX10) (N := 11) rfl (As := [.int 8]) (rest := [.int v3_887]) rfl (Nat.le_of_ble_eq_true rfl) ⟨Nat.le_of_ble_eq_true rfl, Nat.le_of_ble_eq_true rfl⟩ ⟨rfl, rfl⟩ ⟨Nat.zero_le _, Nat.zero_le _⟩ dL_isArchive_854 ?_
                                    refine g_icmp_ne hx 857 958 dL_isArchive_857 (by decide) (fun hc_935 => ?_) (fun hc_935 => ?_)
                                    · have hr := (if_neg hc_935).symm.trans hr
                                      refine g_iconst hx 958 (0) dL_isArchive_958 rfl ?_
                                      exact g_zret hx hR 959 (Or.inl rfl) dL_isArchive_959 ⟨by rw [← Option.some.inj hr] <;> rfl, by rw [← Option.some.inj hr] <;> rfl⟩
                                    · have hr := (if_pos hc_935).symm.trans hr
                                      refine g_iload_n hx 860 (i := 1) 1 dL_isArchive_860 rfl rfl ?_
                                      refine g_iload_n hx 861 (i := 2) 2 dL_isArchive_861 rfl rfl ?_
                                      refine g_iadd hx 862 dL_isArchive_862 ?_
                                      refine g_iload_n hx 863 (i := 3) 3 dL_isArchive_863 rfl rfl ?_
                                      refine g_iadd hx 864 dL_isArchive_864 ?_
                                      refine g_aload_n hx 865 (i := 0) 0 dL_isArchive_865 rfl rfl ?_
                                      refine g_iconst hx 866 (5) dL_isArchive_866 rfl ?_
                                      obtain ⟨q_936, eq_936, hr⟩ := bind_e hr
                                      refine g_callVr hx (c_SA_size l g hC σ B q_926.2 5 eq_936) lk_L_30 ar_SA_size (pW σ B ae q_926.2 0 (by decide)) (T := TX10) (N := 11) rfl (As := [.int 5]) (rest := [.int ((v1_885 + v2_886) + v3_887)]) rfl (Nat.le_of_ble_eq_true rfl) ⟨Nat.le_of_ble_eq_true rfl, Nat.le_of_ble_eq_true rfl⟩ ⟨rfl, rfl⟩ ⟨Nat.zero_le _, Nat.zero_le _⟩ dL_isArchive_867 ?_
                                      refine g_icmp_ne hx 870 958 dL_isArchive_870 (by decide) (fun hc_937 => ?_) (fun hc_937 => ?_)
                                      · have hr := (if_neg hc_937).symm.trans hr
                                        refine g_iconst hx 958 (0) dL_isArchive_958 rfl ?_
                                        exact g_zret hx hR 959 (Or.inl rfl) dL_isArchive_959 ⟨by rw [← Option.some.inj hr] <;> rfl, by rw [← Option.some.inj hr] <;> rfl⟩
                                      · have hr := (if_pos hc_937).symm.trans hr
                                        refine g_iload hx 873 (i := 4) 4 dL_isArchive_873 rfl ?_
                                        refine g_aload_n hx 875 (i := 0) 0 dL_isArchive_875 rfl rfl ?_
                                        refine g_iconst hx 876 (4) dL_isArchive_876 rfl ?_
                                        obtain ⟨q_938, eq_938, hr⟩ := bind_e hr
                                        refine g_callVr hx (c_SA_account l g hC σ B q_926.2 4 eq_938) lk_L_34 ar_SA_account (pW σ B ae q_926.2 0 (by decide)) (T := TX10) (N := 11) rfl (As := [.int 4]) (rest := [.int v4_888]) rfl (Nat.le_of_ble_eq_true rfl) ⟨Nat.le_of_ble_eq_true rfl, Nat.le_of_ble_eq_true rfl⟩ ⟨rfl, rfl⟩ ⟨Nat.zero_le _, Nat.zero_le _⟩ dL_isArchive_877 ?_
                                        refine g_icmp_ne hx 880 958 dL_isArchive_880 (by decide) (fun hc_939 => ?_) (fun hc_939 => ?_)
                                        · have hr := (if_neg hc_939).symm.trans hr
                                          refine g_iconst hx 958 (0) dL_isArchive_958 rfl ?_
                                          exact g_zret hx hR 959 (Or.inl rfl) dL_isArchive_959 ⟨by rw [← Option.some.inj hr] <;> rfl, by rw [← Option.some.inj hr] <;> rfl⟩
                                        · have hr := (if_pos hc_939).symm.trans hr
                                          refine g_iload hx 883 (i := 9) 8 dL_isArchive_883 rfl ?_
                                          refine g_aload_n hx 885 (i := 0) 0 dL_isArchive_885 rfl rfl ?_
                                          refine g_iconst hx 886 (4) dL_isArchive_886 rfl ?_
                                          obtain ⟨q_940, eq_940, hr⟩ := bind_e hr
                                          refine g_callVr hx (c_SA_account l g hC σ B q_926.2 4 eq_940) lk_L_34 ar_SA_account (pW σ B ae q_926.2 0 (by decide)) (T := TX10) (N := 11) rfl (As := [.int 4]) (rest := [.int v9_893]) rfl (Nat.le_of_ble_eq_true rfl) ⟨Nat.le_of_ble_eq_true rfl, Nat.le_of_ble_eq_true rfl⟩ ⟨rfl, rfl⟩ ⟨Nat.zero_le _, Nat.zero_le _⟩ dL_isArchive_887 ?_
                                          refine g_icmp_ne hx 890 958 dL_isArchive_890 (by decide) (fun hc_941 => ?_) (fun hc_941 => ?_)
                                          · have hr := (if_neg hc_941).symm.trans hr
                                            refine g_iconst hx 958 (0) dL_isArchive_958 rfl ?_
                                            exact g_zret hx hR 959 (Or.inl rfl) dL_isArchive_959 ⟨by rw [← Option.some.inj hr] <;> rfl, by rw [← Option.some.inj hr] <;> rfl⟩
                                          · have hr := (if_pos hc_941).symm.trans hr
                                            refine g_iload hx 893 (i := 5) 5 dL_isArchive_893 rfl ?_
                                            refine g_aload_n hx 895 (i := 0) 0 dL_isArchive_895 rfl rfl ?_
                                            refine g_bipush hx 896 (9) dL_isArchive_896 rfl ?_
                                            obtain ⟨q_942, eq_942, hr⟩ := bind_e hr
                                            refine g_callVr hx (c_SA_size l g hC σ B q_926.2 9 eq_942) lk_L_30 ar_SA_size (pW σ B ae q_926.2 0 (by decide)) (T := TX10) (N := 11) rfl (As := [.int 9]) (rest := [.int v5_889]) rfl (Nat.le_of_ble_eq_true rfl) ⟨Nat.le_of_ble_eq_true rfl, Nat.le_of_ble_eq_true rfl⟩ ⟨rfl, rfl⟩ ⟨Nat.zero_le _, Nat.zero_le _⟩ dL_isArchive_898 ?_
                                            refine g_icmp_ne hx 901 958 dL_isArchive_901 (by decide) (fun hc_943 => ?_) (fun hc_943 => ?_)
                                            · have hr := (if_neg hc_943).symm.trans hr
                                              refine g_iconst hx 958 (0) dL_isArchive_958 rfl ?_
                                              exact g_zret hx hR 959 (Or.inl rfl) dL_isArchive_959 ⟨by rw [← Option.some.inj hr] <;> rfl, by rw [← Option.some.inj hr] <;> rfl⟩
                                            · have hr := (if_pos hc_943).symm.trans hr
                                              refine g_iload hx 904 (i := 6) 6 dL_isArchive_904 rfl ?_
                                              refine g_aload_n hx 906 (i := 0) 0 dL_isArchive_906 rfl rfl ?_
                                              obtain ⟨q_944, eq_944, hr⟩ := bind_e hr
                                              refine g_callVr hx (c_SA_missed l g hC σ B q_926.2 eq_944) lk_L_92 ar_SA_missed (pW σ B ae q_926.2 0 (by decide)) (T := TX10) (N := 11) rfl (As := []) (rest := [.int v6_890]) rfl (Nat.le_of_ble_eq_true rfl) ⟨Nat.le_of_ble_eq_true rfl, Nat.le_of_ble_eq_true rfl⟩ ⟨rfl, rfl⟩ ⟨Nat.zero_le _, Nat.zero_le _⟩ dL_isArchive_907 ?_
                                              refine g_icmp_ne hx 910 958 dL_isArchive_910 (by decide) (fun hc_945 => ?_) (fun hc_945 => ?_)
                                              · have hr := (if_neg hc_945).symm.trans hr
                                                refine g_iconst hx 958 (0) dL_isArchive_958 rfl ?_
                                                exact g_zret hx hR 959 (Or.inl rfl) dL_isArchive_959 ⟨by rw [← Option.some.inj hr] <;> rfl, by rw [← Option.some.inj hr] <;> rfl⟩
                                              · have hr := (if_pos hc_945).symm.trans hr
                                                refine g_aload_n hx 913 (i := 0) 0 dL_isArchive_913 rfl rfl ?_
                                                refine g_bipush hx 914 (6) dL_isArchive_914 rfl ?_
                                                obtain ⟨q_946, eq_946, hr⟩ := bind_e hr
                                                refine g_callVr hx (c_SA_account l g hC σ B q_944.2 6 eq_946) lk_L_34 ar_SA_account (pW σ B ae q_944.2 0 (by decide)) (T := TX10) (N := 11) rfl (As := [.int 6]) (rest := []) rfl (Nat.le_of_ble_eq_true rfl) ⟨Nat.le_of_ble_eq_true rfl, Nat.le_of_ble_eq_true rfl⟩ ⟨rfl, rfl⟩ ⟨Nat.zero_le _, Nat.zero_le _⟩ dL_isArchive_916 ?_
                                                refine g_aload_n hx 919 (i := 0) 0 dL_isArchive_919 rfl rfl ?_
                                                refine g_iconst hx 920 (4) dL_isArchive_920 rfl ?_
                                                obtain ⟨q_947, eq_947, hr⟩ := bind_e hr
                                                refine g_callVr hx (c_SA_account l g hC σ B q_944.2 4 eq_947) lk_L_34 ar_SA_account (pW σ B ae q_944.2 0 (by decide)) (T := TX10) (N := 11) rfl (As := [.int 4]) (rest := [.int q_946]) rfl (Nat.le_of_ble_eq_true rfl) ⟨Nat.le_of_ble_eq_true rfl, Nat.le_of_ble_eq_true rfl⟩ ⟨rfl, rfl⟩ ⟨Nat.zero_le _, Nat.zero_le _⟩ dL_isArchive_921 ?_
                                                refine g_icmp_gt hx 924 958 dL_isArchive_924 (by decide) (fun hc_948 => ?_) (fun hc_948 => ?_)
                                                · have hr := (if_pos hc_948).symm.trans hr
                                                  refine g_iconst hx 958 (0) dL_isArchive_958 rfl ?_
                                                  exact g_zret hx hR 959 (Or.inl rfl) dL_isArchive_959 ⟨by rw [← Option.some.inj hr] <;> rfl, by rw [← Option.some.inj hr] <;> rfl⟩
                                                · have hr := (if_neg hc_948).symm.trans hr
                                                  refine g_aload_n hx 927 (i := 0) 0 dL_isArchive_927 rfl rfl ?_
                                                  refine g_iconst hx 928 (4) dL_isArchive_928 rfl ?_
                                                  obtain ⟨q_949, eq_949, hr⟩ := bind_e hr
                                                  refine g_callVr hx (c_SA_account l g hC σ B q_944.2 4 eq_949) lk_L_34 ar_SA_account (pW σ B ae q_944.2 0 (by decide)) (T := TX10) (N := 11) rfl (As := [.int 4]) (rest := []) rfl (Nat.le_of_ble_eq_true rfl) ⟨Nat.le_of_ble_eq_true rfl, Nat.le_of_ble_eq_true rfl⟩ ⟨rfl, rfl⟩ ⟨Nat.zero_le _, Nat.zero_le _⟩ dL_isArchive_929 ?_
                                                  refine g_aload_n hx 932 (i := 0) 0 dL_isArchive_932 rfl rfl ?_
                                                  refine g_bipush hx 933 (9) dL_isArchive_933 rfl ?_
                                                  obtain ⟨q_950, eq_950, hr⟩ := bind_e hr
                                                  refine g_callVr hx (c_SA_size l g hC σ B q_944.2 9 eq_950) lk_L_30 ar_SA_size (pW σ B ae q_944.2 0 (by decide)) (T := TX10) (N := 11) rfl (As := [.int 9]) (rest := [.int q_949]) rfl (Nat.le_of_ble_eq_true rfl) ⟨Nat.le_of_ble_eq_true rfl, Nat.le_of_ble_eq_true rfl⟩ ⟨rfl, rfl⟩ ⟨Nat.zero_le _, Nat.zero_le _⟩ dL_isArchive_935 ?_
                                                  refine g_iadd hx 938 dL_isArchive_938 ?_
                                                  refine g_aload_n hx 939 (i := 0) 0 dL_isArchive_939 rfl rfl ?_
                                                  refine g_iconst hx 940 (3) dL_isArchive_940 rfl ?_
                                                  obtain ⟨q_951, eq_951, hr⟩ := bind_e hr
                                                  refine g_callVr hx (c_SA_account l g hC σ B q_944.2 3 eq_951) lk_L_34 ar_SA_account (pW σ B ae q_944.2 0 (by decide)) (T := TX10) (N := 11) rfl (As := [.int 3]) (rest := [.int (q_949 + q_950)]) rfl (Nat.le_of_ble_eq_true rfl) ⟨Nat.le_of_ble_eq_true rfl, Nat.le_of_ble_eq_true rfl⟩ ⟨rfl, rfl⟩ ⟨Nat.zero_le _, Nat.zero_le _⟩ dL_isArchive_941 ?_
                                                  refine g_icmp_gt hx 944 958 dL_isArchive_944 (by decide) (fun hc_952 => ?_) (fun hc_952 => ?_)
                                                  · have hr := (if_pos hc_952).symm.trans hr
                                                    refine g_iconst hx 958 (0) dL_isArchive_958 rfl ?_
                                                    exact g_zret hx hR 959 (Or.inl rfl) dL_isArchive_959 ⟨by rw [← Option.some.inj hr] <;> rfl, by rw [← Option.some.inj hr] <;> rfl⟩
                                                  · have hr := (if_neg hc_952).symm.trans hr
                                                    refine g_aload_n hx 947 (i := 0) 0 dL_isArchive_947 rfl rfl ?_
                                                    obtain ⟨q_953, eq_953, hr⟩ := bind_e hr
                                                    refine g_callVr hx (c_SA_gap l g hC σ B q_944.2 eq_953) lk_L_95 ar_SA_gap (pW σ B ae q_944.2 0 (by decide)) (T := TX10) (N := 11) rfl (As := []) (rest := []) rfl (Nat.le_of_ble_eq_true rfl) ⟨Nat.le_of_ble_eq_true rfl, Nat.le_of_ble_eq_true rfl⟩ ⟨rfl, rfl⟩ ⟨Nat.zero_le _, Nat.zero_le _⟩ dL_isArchive_948 ?_
                                                    refine g_if_ne hx 951 958 dL_isArchive_951 (by decide) (fun hc_954 => ?_) (fun hc_954 => ?_)
                                                    · have hr := (if_neg hc_954).symm.trans hr
                                                      refine g_iconst hx 958 (0) dL_isArchive_958 rfl ?_
                                                      exact g_zret hx hR 959 (Or.inl rfl) dL_isArchive_959 ⟨by rw [← Option.some.inj hr] <;> rfl, by rw [← Option.some.inj hr] <;> rfl⟩
                                                    · have hr := (if_pos hc_954).symm.trans hr
                                                      refine g_iconst hx 954 (1) dL_isArchive_954 rfl ?_
                                                      refine g_goto hx 955 959 dL_isArchive_955 (by decide) ?_
                                                      exact g_zret hx hR 959 (Or.inr rfl) dL_isArchive_959 ⟨by rw [← Option.some.inj hr] <;> rfl, by rw [← Option.some.inj hr] <;> rfl⟩
                              · have hr := (if_neg hc_930).symm.trans hr
                                refine g_iconst hx 832 (0) dL_isArchive_832 rfl ?_
                                exact g_zret hx hR 833 (Or.inl rfl) dL_isArchive_833 ⟨by rw [← Option.some.inj hr] <;> rfl, by rw [← Option.some.inj hr] <;> rfl⟩
                            refine g_if_le hx 813 823 dL_isArchive_813 (by decide) (fun hc_955 => ?_) (fun hc_955 => ?_)
                            · have hr := (if_pos hc_955).symm.trans hr
                              refine g_ls [0, 1, 2, 3, 4, 5, 6, 7, 8, 9] [(0, .ref B), (1, .int v1_885), (2, .int v2_886), (3, .int v3_887), (4, .int v4_888), (5, .int v5_889), (6, .int v6_890), (8, .int v8_892), (9, .int v9_893), (11, .int q_898)] rfl ?_
                              exact J_928 hr
                            · have hr := (if_neg hc_955).symm.trans hr
                              refine g_iload hx 816 (i := 11) 9 dL_isArchive_816 rfl ?_
                              refine g_bipush hx 818 (99) dL_isArchive_818 rfl ?_
                              refine g_icmp_le hx 820 832 dL_isArchive_820 (by decide) (fun hc_956 => ?_) (fun hc_956 => ?_)
                              · have hr := (if_pos hc_956).symm.trans hr
                                refine g_iconst hx 832 (0) dL_isArchive_832 rfl ?_
                                exact g_zret hx hR 833 (Or.inl rfl) dL_isArchive_833 ⟨by rw [← Option.some.inj hr] <;> rfl, by rw [← Option.some.inj hr] <;> rfl⟩
                              · have hr := (if_neg hc_956).symm.trans hr
                                refine g_ls [0, 1, 2, 3, 4, 5, 6, 7, 8, 9] [(0, .ref B), (1, .int v1_885), (2, .int v2_886), (3, .int v3_887), (4, .int v4_888), (5, .int v5_889), (6, .int v6_890), (8, .int v8_892), (9, .int v9_893), (11, .int q_898)] rfl ?_
                                exact J_928 hr
                          refine g_if_ne hx 799 807 dL_isArchive_799 (by decide) (fun hc_957 => ?_) (fun hc_957 => ?_)
                          · have hr := (if_neg hc_957).symm.trans hr
                            refine g_ls [0, 1, 2, 3, 4, 5, 6, 7, 8, 9] [(0, .ref B), (1, .int v1_885), (2, .int v2_886), (3, .int v3_887), (4, .int v4_888), (5, .int v5_889), (6, .int v6_890), (8, .int v8_892), (9, .int v9_893), (11, .int q_898)] rfl ?_
                            exact J_925 hr
                          · have hr := (if_pos hc_957).symm.trans hr
                            refine g_iload hx 802 (i := 6) 6 dL_isArchive_802 rfl ?_
                            refine g_if_gt hx 804 832 dL_isArchive_804 (by decide) (fun hc_958 => ?_) (fun hc_958 => ?_)
                            · have hr := (if_pos hc_958).symm.trans hr
                              refine g_iconst hx 832 (0) dL_isArchive_832 rfl ?_
                              exact g_zret hx hR 833 (Or.inl rfl) dL_isArchive_833 ⟨by rw [← Option.some.inj hr] <;> rfl, by rw [← Option.some.inj hr] <;> rfl⟩
                            · have hr := (if_neg hc_958).symm.trans hr
                              refine g_ls [0, 1, 2, 3, 4, 5, 6, 7, 8, 9] [(0, .ref B), (1, .int v1_885), (2, .int v2_886), (3, .int v3_887), (4, .int v4_888), (5, .int v5_889), (6, .int v6_890), (8, .int v8_892), (9, .int v9_893), (11, .int q_898)] rfl ?_
                              exact J_925 hr
                      refine g_if_ge hx 786 793 dL_isArchive_786 (by decide) (fun hc_959 => ?_) (fun hc_959 => ?_)
                      · have hr := (if_pos hc_959).symm.trans hr
                        refine g_iconst hx 793 (0) dL_isArchive_793 rfl ?_
                        refine g_ls [0, 1, 2, 3, 4, 5, 6, 7, 8, 9] [(0, .ref B), (1, .int v1_885), (2, .int v2_886), (3, .int v3_887), (4, .int v4_888), (5, .int v5_889), (6, .int v6_890), (8, .int v8_892), (9, .int v9_893), (11, .int q_898)] rfl ?_
                        exact J_922 0 hr
                      · have hr := (if_neg hc_959).symm.trans hr
                        refine g_iconst hx 789 (1) dL_isArchive_789 rfl ?_
                        refine g_goto hx 790 794 dL_isArchive_790 (by decide) ?_
                        refine g_ls [0, 1, 2, 3, 4, 5, 6, 7, 8, 9] [(0, .ref B), (1, .int v1_885), (2, .int v2_886), (3, .int v3_887), (4, .int v4_888), (5, .int v5_889), (6, .int v6_890), (8, .int v8_892), (9, .int v9_893), (11, .int q_898)] rfl ?_
                        exact J_922 1 hr
                    refine g_if_ne hx 774 781 dL_isArchive_774 (by decide) (fun hc_960 => ?_) (fun hc_960 => ?_)
                    · have hr := (if_neg hc_960).symm.trans hr
                      refine g_iconst hx 781 (0) dL_isArchive_781 rfl ?_
                      refine g_ls [0, 1, 2, 3, 4, 5, 6, 7, 8, 9] [(0, .ref B), (1, .int v1_885), (2, .int v2_886), (3, .int v3_887), (4, .int v4_888), (5, .int v5_889), (6, .int v6_890), (8, .int v8_892), (9, .int v9_893), (11, .int q_898)] rfl ?_
                      exact J_918 0 hr
                    · have hr := (if_pos hc_960).symm.trans hr
                      refine g_iconst hx 777 (1) dL_isArchive_777 rfl ?_
                      refine g_goto hx 778 782 dL_isArchive_778 (by decide) ?_
                      refine g_ls [0, 1, 2, 3, 4, 5, 6, 7, 8, 9] [(0, .ref B), (1, .int v1_885), (2, .int v2_886), (3, .int v3_887), (4, .int v4_888), (5, .int v5_889), (6, .int v6_890), (8, .int v8_892), (9, .int v9_893), (11, .int q_898)] rfl ?_
                      exact J_918 1 hr
                refine g_icmp_ne hx 761 768 dL_isArchive_761 (by decide) (fun hc_961 => ?_) (fun hc_961 => ?_)
                · have hr := (if_neg hc_961).symm.trans hr
                  refine g_iconst hx 768 (0) dL_isArchive_768 rfl ?_
                  refine g_ls [0, 1, 2, 3, 4, 5, 6, 7, 8, 9] [(0, .ref B), (1, .int v1_885), (2, .int v2_886), (3, .int v3_887), (4, .int v4_888), (5, .int v5_889), (6, .int v6_890), (8, .int v8_892), (9, .int v9_893), (11, .int q_898)] rfl ?_
                  exact J_914 0 hr
                · have hr := (if_pos hc_961).symm.trans hr
                  refine g_iconst hx 764 (1) dL_isArchive_764 rfl ?_
                  refine g_goto hx 765 769 dL_isArchive_765 (by decide) ?_
                  refine g_ls [0, 1, 2, 3, 4, 5, 6, 7, 8, 9] [(0, .ref B), (1, .int v1_885), (2, .int v2_886), (3, .int v3_887), (4, .int v4_888), (5, .int v5_889), (6, .int v6_890), (8, .int v8_892), (9, .int v9_893), (11, .int q_898)] rfl ?_
                  exact J_914 1 hr
              refine g_if_ne hx 748 755 dL_isArchive_748 (by decide) (fun hc_962 => ?_) (fun hc_962 => ?_)
              · have hr := (if_neg hc_962).symm.trans hr
                refine g_iconst hx 755 (0) dL_isArchive_755 rfl ?_
                refine g_ls [0, 1, 2, 3, 4, 5, 6, 7, 8, 9] [(0, .ref B), (1, .int v1_885), (2, .int v2_886), (3, .int v3_887), (4, .int v4_888), (5, .int v5_889), (6, .int v6_890), (8, .int v8_892), (9, .int v9_893), (11, .int q_898)] rfl ?_
                exact J_910 0 hr
              · have hr := (if_pos hc_962).symm.trans hr
                refine g_iconst hx 751 (1) dL_isArchive_751 rfl ?_
                refine g_goto hx 752 756 dL_isArchive_752 (by decide) ?_
                refine g_ls [0, 1, 2, 3, 4, 5, 6, 7, 8, 9] [(0, .ref B), (1, .int v1_885), (2, .int v2_886), (3, .int v3_887), (4, .int v4_888), (5, .int v5_889), (6, .int v6_890), (8, .int v8_892), (9, .int v9_893), (11, .int q_898)] rfl ?_
                exact J_910 1 hr
          refine g_if_ne hx 735 742 dL_isArchive_735 (by decide) (fun hc_963 => ?_) (fun hc_963 => ?_)
          · have hr := (if_neg hc_963).symm.trans hr
            refine g_iconst hx 742 (0) dL_isArchive_742 rfl ?_
            refine g_ls [0, 1, 2, 3, 4, 5, 6, 8, 9, 10] [(0, .ref B), (1, .int v1_885), (2, .int v2_886), (3, .int v3_887), (4, .int v4_888), (5, .int v5_889), (6, .int v6_890), (8, .int v8_892), (9, .int v9_893), (11, .int q_898)] rfl ?_
            exact J_906 0 hr
          · have hr := (if_pos hc_963).symm.trans hr
            refine g_iconst hx 738 (1) dL_isArchive_738 rfl ?_
            refine g_goto hx 739 743 dL_isArchive_739 (by decide) ?_
            refine g_ls [0, 1, 2, 3, 4, 5, 6, 8, 9, 10] [(0, .ref B), (1, .int v1_885), (2, .int v2_886), (3, .int v3_887), (4, .int v4_888), (5, .int v5_889), (6, .int v6_890), (8, .int v8_892), (9, .int v9_893), (11, .int q_898)] rfl ?_
            exact J_906 1 hr
        refine g_if_ne hx 725 732 dL_isArchive_725 (by decide) (fun hc_964 => ?_) (fun hc_964 => ?_)
        · have hr := (if_neg hc_964).symm.trans hr
          refine g_iconst hx 732 (0) dL_isArchive_732 rfl ?_
          refine g_ls [1, 2, 3, 4, 5, 6, 7, 8, 9, 10, 0] [(0, .ref B), (1, .int v1_885), (2, .int v2_886), (3, .int v3_887), (4, .int v4_888), (5, .int v5_889), (6, .int v6_890), (7, .int v7_891), (8, .int v8_892), (9, .int v9_893), (11, .int q_898)] rfl ?_
          exact J_903 0 hr
        · have hr := (if_pos hc_964).symm.trans hr
          refine g_iconst hx 728 (1) dL_isArchive_728 rfl ?_
          refine g_goto hx 729 733 dL_isArchive_729 (by decide) ?_
          refine g_ls [1, 2, 3, 4, 5, 6, 7, 8, 9, 10, 0] [(0, .ref B), (1, .int v1_885), (2, .int v2_886), (3, .int v3_887), (4, .int v4_888), (5, .int v5_889), (6, .int v6_890), (7, .int v7_891), (8, .int v8_892), (9, .int v9_893), (11, .int q_898)] rfl ?_
          exact J_903 1 hr
    · have hr := (if_neg hc_897).symm.trans hr
      refine g_aload_n hx 468 (i := 0) 0 dL_isArchive_468 rfl rfl ?_
      refine g_iload hx 469 (i := 11) 11 dL_isArchive_469 rfl ?_
      refine g_iconst hx 471 (4) dL_isArchive_471 rfl ?_
      obtain ⟨q_965, eq_965, hr⟩ := bind_e hr
      refine g_callVr hx (c_SA_waiting l g hC σ B M v11_895 4 eq_965) lk_L_41 ar_SA_waiting (pW σ B ae M 0 (by decide)) (T := TX10) (N := 11) rfl (As := [.int v11_895, .int 4]) (rest := []) rfl (Nat.le_of_ble_eq_true rfl) ⟨Nat.le_of_ble_eq_true rfl, Nat.le_of_ble_eq_true rfl⟩ ⟨rfl, rfl⟩ ⟨Nat.zero_le _, Nat.zero_le _⟩ dL_isArchive_472 ?_
      refine g_istore hx 475 (i := 12) [(12, .int q_965), (0, .ref B), (1, .int v1_885), (2, .int v2_886), (3, .int v3_887), (4, .int v4_888), (5, .int v5_889), (6, .int v6_890), (7, .int v7_891), (8, .int v8_892), (9, .int v9_893), (10, .int v10_894), (11, .int v11_895)] dL_isArchive_475 (by decide) rfl ?_
      refine g_aload_n hx 477 (i := 0) 1 dL_isArchive_477 rfl rfl ?_
      refine g_iload hx 478 (i := 11) 12 dL_isArchive_478 rfl ?_
      refine g_iconst hx 480 (1) dL_isArchive_480 rfl ?_
      obtain ⟨q_966, eq_966, hr⟩ := bind_e hr
      refine g_callVr hx (c_SA_waiting l g hC σ B M v11_895 1 eq_966) lk_L_41 ar_SA_waiting (pW σ B ae M 0 (by decide)) (T := TX10) (N := 11) rfl (As := [.int v11_895, .int 1]) (rest := []) rfl (Nat.le_of_ble_eq_true rfl) ⟨Nat.le_of_ble_eq_true rfl, Nat.le_of_ble_eq_true rfl⟩ ⟨rfl, rfl⟩ ⟨Nat.zero_le _, Nat.zero_le _⟩ dL_isArchive_481 ?_
      refine g_istore hx 484 (i := 13) [(13, .int q_966), (12, .int q_965), (0, .ref B), (1, .int v1_885), (2, .int v2_886), (3, .int v3_887), (4, .int v4_888), (5, .int v5_889), (6, .int v6_890), (7, .int v7_891), (8, .int v8_892), (9, .int v9_893), (10, .int v10_894), (11, .int v11_895)] dL_isArchive_484 (by decide) rfl ?_
      refine g_aload_n hx 486 (i := 0) 2 dL_isArchive_486 rfl rfl ?_
      refine g_iload hx 487 (i := 11) 13 dL_isArchive_487 rfl ?_
      refine g_iconst hx 489 (0) dL_isArchive_489 rfl ?_
      obtain ⟨q_967, eq_967, hr⟩ := bind_e hr
      refine g_callVr hx (c_SA_waiting l g hC σ B M v11_895 0 eq_967) lk_L_41 ar_SA_waiting (pW σ B ae M 0 (by decide)) (T := TX10) (N := 11) rfl (As := [.int v11_895, .int 0]) (rest := []) rfl (Nat.le_of_ble_eq_true rfl) ⟨Nat.le_of_ble_eq_true rfl, Nat.le_of_ble_eq_true rfl⟩ ⟨rfl, rfl⟩ ⟨Nat.zero_le _, Nat.zero_le _⟩ dL_isArchive_490 ?_
      refine g_istore hx 493 (i := 14) [(14, .int q_967), (13, .int q_966), (12, .int q_965), (0, .ref B), (1, .int v1_885), (2, .int v2_886), (3, .int v3_887), (4, .int v4_888), (5, .int v5_889), (6, .int v6_890), (7, .int v7_891), (8, .int v8_892), (9, .int v9_893), (10, .int v10_894), (11, .int v11_895)] dL_isArchive_493 (by decide) rfl ?_
      refine g_iload hx 495 (i := 12) 2 dL_isArchive_495 rfl ?_
      refine g_iconst hx 497 (1) dL_isArchive_497 rfl ?_
      obtain ⟨c_969, ec_969, hr⟩ := lt'_e hr
      have J_970 : ∀ (t_968 : Int32), c_969 t_968 = some r → G X (putW σ B ae M) 0 0 506 [(0, .ref B), (1, .int v1_885), (2, .int v2_886), (3, .int v3_887), (4, .int v4_888), (5, .int v5_889), (6, .int v6_890), (7, .int v7_891), (8, .int v8_892), (9, .int v9_893), (10, .int v10_894), (11, .int v11_895), (12, .int q_965), (13, .int q_966), (14, .int q_967)] [.int t_968] := by
        intro t_968 hr
        have hr := (congrFun ec_969 t_968).symm.trans hr
        refine g_aload_n hx 506 (i := 0) 0 dL_isArchive_506 rfl rfl ?_
        refine g_iload hx 507 (i := 13) 13 dL_isArchive_507 rfl ?_
        refine g_iconst hx 509 (2) dL_isArchive_509 rfl ?_
        obtain ⟨q_971, eq_971, hr⟩ := bind_e hr
        refine g_callVr hx (c_SA_folder l g hC σ B M q_966 2 eq_971) lk_L_37 ar_SA_folder (pW σ B ae M 0 (by decide)) (T := TX10) (N := 11) rfl (As := [.int q_966, .int 2]) (rest := [.int t_968]) rfl (Nat.le_of_ble_eq_true rfl) ⟨Nat.le_of_ble_eq_true rfl, Nat.le_of_ble_eq_true rfl⟩ ⟨rfl, rfl⟩ ⟨Nat.zero_le _, Nat.zero_le _⟩ dL_isArchive_510 ?_
        refine g_iconst hx 513 (1) dL_isArchive_513 rfl ?_
        obtain ⟨c_973, ec_973, hr⟩ := lt'_e hr
        have J_974 : ∀ (t_972 : Int32), c_973 t_972 = some r → G X (putW σ B ae M) 0 0 522 [(0, .ref B), (1, .int v1_885), (2, .int v2_886), (3, .int v3_887), (4, .int v4_888), (5, .int v5_889), (6, .int v6_890), (7, .int v7_891), (8, .int v8_892), (9, .int v9_893), (10, .int v10_894), (11, .int v11_895), (12, .int q_965), (13, .int q_966), (14, .int q_967)] [.int t_972, .int t_968] := by
          intro t_972 hr
          have hr := (congrFun ec_973 t_972).symm.trans hr
          refine g_icmp_ne hx 522 698 dL_isArchive_522 (by decide) (fun hc_975 => ?_) (fun hc_975 => ?_)
          · have hr := (if_neg hc_975).symm.trans hr
            refine g_iconst hx 698 (0) dL_isArchive_698 rfl ?_
            exact g_zret hx hR 699 (Or.inl rfl) dL_isArchive_699 ⟨by rw [← Option.some.inj hr] <;> rfl, by rw [← Option.some.inj hr] <;> rfl⟩
          · have hr := (if_pos hc_975).symm.trans hr
            refine g_iload hx 525 (i := 12) 12 dL_isArchive_525 rfl ?_
            refine g_iconst hx 527 (2) dL_isArchive_527 rfl ?_
            obtain ⟨c_977, ec_977, hr⟩ := lt'_e hr
            have J_978 : ∀ (t_976 : Int32), c_977 t_976 = some r → G X (putW σ B ae M) 0 0 536 [(0, .ref B), (1, .int v1_885), (2, .int v2_886), (3, .int v3_887), (4, .int v4_888), (5, .int v5_889), (6, .int v6_890), (7, .int v7_891), (8, .int v8_892), (9, .int v9_893), (10, .int v10_894), (11, .int v11_895), (12, .int q_965), (13, .int q_966), (14, .int q_967)] [.int t_976] := by
              intro t_976 hr
              have hr := (congrFun ec_977 t_976).symm.trans hr
              refine g_aload_n hx 536 (i := 0) 0 dL_isArchive_536 rfl rfl ?_
              refine g_iload hx 537 (i := 13) 13 dL_isArchive_537 rfl ?_
              refine g_iconst hx 539 (2) dL_isArchive_539 rfl ?_
              obtain ⟨q_979, eq_979, hr⟩ := bind_e hr
              refine g_callVr hx (c_SA_folder l g hC σ B M q_966 2 eq_979) lk_L_37 ar_SA_folder (pW σ B ae M 0 (by decide)) (T := TX10) (N := 11) rfl (As := [.int q_966, .int 2]) (rest := [.int t_976]) rfl (Nat.le_of_ble_eq_true rfl) ⟨Nat.le_of_ble_eq_true rfl, Nat.le_of_ble_eq_true rfl⟩ ⟨rfl, rfl⟩ ⟨Nat.zero_le _, Nat.zero_le _⟩ dL_isArchive_540 ?_
              refine g_iconst hx 543 (2) dL_isArchive_543 rfl ?_
              obtain ⟨c_981, ec_981, hr⟩ := lt'_e hr
              have J_982 : ∀ (t_980 : Int32), c_981 t_980 = some r → G X (putW σ B ae M) 0 0 552 [(0, .ref B), (1, .int v1_885), (2, .int v2_886), (3, .int v3_887), (4, .int v4_888), (5, .int v5_889), (6, .int v6_890), (7, .int v7_891), (8, .int v8_892), (9, .int v9_893), (10, .int v10_894), (11, .int v11_895), (12, .int q_965), (13, .int q_966), (14, .int q_967)] [.int t_980, .int t_976] := by
                intro t_980 hr
                have hr := (congrFun ec_981 t_980).symm.trans hr
                refine g_icmp_ne hx 552 698 dL_isArchive_552 (by decide) (fun hc_983 => ?_) (fun hc_983 => ?_)
                · have hr := (if_neg hc_983).symm.trans hr
                  refine g_iconst hx 698 (0) dL_isArchive_698 rfl ?_
                  exact g_zret hx hR 699 (Or.inl rfl) dL_isArchive_699 ⟨by rw [← Option.some.inj hr] <;> rfl, by rw [← Option.some.inj hr] <;> rfl⟩
                · have hr := (if_pos hc_983).symm.trans hr
                  refine g_iload hx 555 (i := 12) 12 dL_isArchive_555 rfl ?_
                  refine g_iconst hx 557 (3) dL_isArchive_557 rfl ?_
                  obtain ⟨c_984, ec_984, hr⟩ := lt'_e hr
                  have J_985 : c_984 = some r → G X (putW σ B ae M) 0 0 572 [(0, .ref B), (1, .int v1_885), (2, .int v2_886), (3, .int v3_887), (4, .int v4_888), (5, .int v5_889), (6, .int v6_890), (7, .int v7_891), (8, .int v8_892), (9, .int v9_893), (10, .int v10_894), (11, .int v11_895), (12, .int q_965), (13, .int q_966), (14, .int q_967)] [] := by
                    intro hr
                    have hr := ec_984.symm.trans hr
                    refine g_iload hx 572 (i := 12) 12 dL_isArchive_572 rfl ?_
                    refine g_iconst hx 574 (4) dL_isArchive_574 rfl ?_
                    obtain ⟨c_986, ec_986, hr⟩ := lt'_e hr
                    have J_987 : c_986 = some r → G X (putW σ B ae M) 0 0 590 [(0, .ref B), (1, .int v1_885), (2, .int v2_886), (3, .int v3_887), (4, .int v4_888), (5, .int v5_889), (6, .int v6_890), (7, .int v7_891), (8, .int v8_892), (9, .int v9_893), (10, .int v10_894), (11, .int v11_895), (12, .int q_965), (13, .int q_966), (14, .int q_967)] [] := by
                      intro hr
                      have hr := ec_986.symm.trans hr
                      refine g_iload hx 590 (i := 12) 12 dL_isArchive_590 rfl ?_
                      obtain ⟨c_988, ec_988, hr⟩ := lt'_e hr
                      have J_989 : c_988 = some r → G X (putW σ B ae M) 0 0 619 [(0, .ref B), (1, .int v1_885), (2, .int v2_886), (3, .int v3_887), (4, .int v4_888), (5, .int v5_889), (6, .int v6_890), (7, .int v7_891), (8, .int v8_892), (9, .int v9_893), (10, .int v10_894), (11, .int v11_895), (12, .int q_965), (13, .int q_966), (14, .int q_967)] [] := by
                        intro hr
                        have hr := ec_988.symm.trans hr
                        refine g_aload_n hx 619 (i := 0) 0 dL_isArchive_619 rfl rfl ?_
                        refine g_iload hx 620 (i := 11) 11 dL_isArchive_620 rfl ?_
                        refine g_iconst hx 622 (3) dL_isArchive_622 rfl ?_
                        obtain ⟨q_990, eq_990, hr⟩ := bind_e hr
                        refine g_callVr hx (c_SA_waiting l g hC σ B M v11_895 3 eq_990) lk_L_41 ar_SA_waiting (pW σ B ae M 0 (by decide)) (T := TX10) (N := 11) rfl (As := [.int v11_895, .int 3]) (rest := []) rfl (Nat.le_of_ble_eq_true rfl) ⟨Nat.le_of_ble_eq_true rfl, Nat.le_of_ble_eq_true rfl⟩ ⟨rfl, rfl⟩ ⟨Nat.zero_le _, Nat.zero_le _⟩ dL_isArchive_623 ?_
                        refine g_iconst hx 626 (2) dL_isArchive_626 rfl ?_
                        refine g_icmp_gt hx 627 698 dL_isArchive_627 (by decide) (fun hc_991 => ?_) (fun hc_991 => ?_)
                        · have hr := (if_pos hc_991).symm.trans hr
                          refine g_iconst hx 698 (0) dL_isArchive_698 rfl ?_
                          exact g_zret hx hR 699 (Or.inl rfl) dL_isArchive_699 ⟨by rw [← Option.some.inj hr] <;> rfl, by rw [← Option.some.inj hr] <;> rfl⟩
                        · have hr := (if_neg hc_991).symm.trans hr
                          refine g_aload_n hx 630 (i := 0) 0 dL_isArchive_630 rfl rfl ?_
                          refine g_iload hx 631 (i := 11) 11 dL_isArchive_631 rfl ?_
                          refine g_iconst hx 633 (2) dL_isArchive_633 rfl ?_
                          obtain ⟨q_992, eq_992, hr⟩ := bind_e hr
                          refine g_callVr hx (c_SA_waiting l g hC σ B M v11_895 2 eq_992) lk_L_41 ar_SA_waiting (pW σ B ae M 0 (by decide)) (T := TX10) (N := 11) rfl (As := [.int v11_895, .int 2]) (rest := []) rfl (Nat.le_of_ble_eq_true rfl) ⟨Nat.le_of_ble_eq_true rfl, Nat.le_of_ble_eq_true rfl⟩ ⟨rfl, rfl⟩ ⟨Nat.zero_le _, Nat.zero_le _⟩ dL_isArchive_634 ?_
                          refine g_aload_n hx 637 (i := 0) 0 dL_isArchive_637 rfl rfl ?_
                          refine g_iconst hx 638 (0) dL_isArchive_638 rfl ?_
                          obtain ⟨q_993, eq_993, hr⟩ := bind_e hr
                          refine g_callVr hx (c_SA_size l g hC σ B M 0 eq_993) lk_L_30 ar_SA_size (pW σ B ae M 0 (by decide)) (T := TX10) (N := 11) rfl (As := [.int 0]) (rest := [.int q_992]) rfl (Nat.le_of_ble_eq_true rfl) ⟨Nat.le_of_ble_eq_true rfl, Nat.le_of_ble_eq_true rfl⟩ ⟨rfl, rfl⟩ ⟨Nat.zero_le _, Nat.zero_le _⟩ dL_isArchive_639 ?_
                          refine g_icmp_gt hx 642 698 dL_isArchive_642 (by decide) (fun hc_994 => ?_) (fun hc_994 => ?_)
                          · have hr := (if_pos hc_994).symm.trans hr
                            refine g_iconst hx 698 (0) dL_isArchive_698 rfl ?_
                            exact g_zret hx hR 699 (Or.inl rfl) dL_isArchive_699 ⟨by rw [← Option.some.inj hr] <;> rfl, by rw [← Option.some.inj hr] <;> rfl⟩
                          · have hr := (if_neg hc_994).symm.trans hr
                            refine g_aload_n hx 645 (i := 0) 0 dL_isArchive_645 rfl rfl ?_
                            refine g_iload hx 646 (i := 14) 14 dL_isArchive_646 rfl ?_
                            refine g_iload hx 648 (i := 13) 13 dL_isArchive_648 rfl ?_
                            obtain ⟨q_995, eq_995, hr⟩ := bind_e hr
                            refine g_callVr hx (c_SA_why l g hC σ B M q_967 q_966 eq_995) lk_L_68 ar_SA_why (pW σ B ae M 0 (by decide)) (T := TX10) (N := 11) rfl (As := [.int q_967, .int q_966]) (rest := []) rfl (Nat.le_of_ble_eq_true rfl) ⟨Nat.le_of_ble_eq_true rfl, Nat.le_of_ble_eq_true rfl⟩ ⟨rfl, rfl⟩ ⟨Nat.zero_le _, Nat.zero_le _⟩ dL_isArchive_650 ?_
                            refine g_bipush hx 653 (-3) dL_isArchive_653 rfl ?_
                            refine g_icmp_ne hx 655 698 dL_isArchive_655 (by decide) (fun hc_996 => ?_) (fun hc_996 => ?_)
                            · have hr := (if_neg hc_996).symm.trans hr
                              refine g_iconst hx 698 (0) dL_isArchive_698 rfl ?_
                              exact g_zret hx hR 699 (Or.inl rfl) dL_isArchive_699 ⟨by rw [← Option.some.inj hr] <;> rfl, by rw [← Option.some.inj hr] <;> rfl⟩
                            · have hr := (if_pos hc_996).symm.trans hr
                              refine g_aload_n hx 658 (i := 0) 0 dL_isArchive_658 rfl rfl ?_
                              refine g_iload hx 659 (i := 14) 14 dL_isArchive_659 rfl ?_
                              refine g_iload hx 661 (i := 13) 13 dL_isArchive_661 rfl ?_
                              obtain ⟨q_997, eq_997, hr⟩ := bind_e hr
                              refine g_callVr hx (c_SA_cause l g hC σ B M q_967 q_966 eq_997) lk_L_71 ar_SA_cause (pW σ B ae M 0 (by decide)) (T := TX10) (N := 11) rfl (As := [.int q_967, .int q_966]) (rest := []) rfl (Nat.le_of_ble_eq_true rfl) ⟨Nat.le_of_ble_eq_true rfl, Nat.le_of_ble_eq_true rfl⟩ ⟨rfl, rfl⟩ ⟨Nat.zero_le _, Nat.zero_le _⟩ dL_isArchive_663 ?_
                              refine g_iload hx 666 (i := 11) 11 dL_isArchive_666 rfl ?_
                              refine g_icmp_ne hx 668 698 dL_isArchive_668 (by decide) (fun hc_998 => ?_) (fun hc_998 => ?_)
                              · have hr := (if_neg hc_998).symm.trans hr
                                refine g_iconst hx 698 (0) dL_isArchive_698 rfl ?_
                                exact g_zret hx hR 699 (Or.inl rfl) dL_isArchive_699 ⟨by rw [← Option.some.inj hr] <;> rfl, by rw [← Option.some.inj hr] <;> rfl⟩
                              · have hr := (if_pos hc_998).symm.trans hr
                                refine g_iload hx 671 (i := 12) 12 dL_isArchive_671 rfl ?_
                                obtain ⟨c_1000, ec_1000, hr⟩ := lt'_e hr
                                have J_1001 : ∀ (t_999 : Int32), c_1000 t_999 = some r → G X (putW σ B ae M) 0 0 681 [(0, .ref B), (1, .int v1_885), (2, .int v2_886), (3, .int v3_887), (4, .int v4_888), (5, .int v5_889), (6, .int v6_890), (7, .int v7_891), (8, .int v8_892), (9, .int v9_893), (10, .int v10_894), (11, .int v11_895)] [.int t_999] := by
                                  intro t_999 hr
                                  have hr := (congrFun ec_1000 t_999).symm.trans hr
                                  refine g_aload_n hx 681 (i := 0) 0 dL_isArchive_681 rfl rfl ?_
                                  refine g_iload hx 682 (i := 11) 11 dL_isArchive_682 rfl ?_
                                  refine g_callVr hx (c_SA_waitsFor l g hC σ B M v11_895 rfl) lk_L_74 ar_SA_waitsFor (pW σ B ae M 0 (by decide)) (T := TX10) (N := 11) rfl (As := [.int v11_895]) (rest := [.int t_999]) rfl (Nat.le_of_ble_eq_true rfl) ⟨Nat.le_of_ble_eq_true rfl, Nat.le_of_ble_eq_true rfl⟩ ⟨rfl, rfl⟩ ⟨Nat.zero_le _, Nat.zero_le _⟩ dL_isArchive_684 ?_
                                  obtain ⟨c_1003, ec_1003, hr⟩ := lt'_e hr
                                  have J_1004 : ∀ (t_1002 : Int32), c_1003 t_1002 = some r → G X (putW σ B ae M) 0 0 695 [(0, .ref B), (1, .int v1_885), (2, .int v2_886), (3, .int v3_887), (4, .int v4_888), (5, .int v5_889), (6, .int v6_890), (7, .int v7_891), (8, .int v8_892), (9, .int v9_893), (10, .int v10_894), (11, .int v11_895)] [.int t_1002, .int t_999] := by
                                    intro t_1002 hr
                                    have hr := (congrFun ec_1003 t_1002).symm.trans hr
                                    refine g_icmp_eq hx 695 700 dL_isArchive_695 (by decide) (fun hc_1005 => ?_) (fun hc_1005 => ?_)
                                    · have hr := (if_pos hc_1005).symm.trans hr
                                      refine g_iinc hx 700 (i := 11) 11 (v11_895 + 1) [(11, .int (v11_895 + 1)), (0, .ref B), (1, .int v1_885), (2, .int v2_886), (3, .int v3_887), (4, .int v4_888), (5, .int v5_889), (6, .int v6_890), (7, .int v7_891), (8, .int v8_892), (9, .int v9_893), (10, .int v10_894)] dL_isArchive_700 rfl rfl (by decide) rfl ?_
                                      refine g_goto hx 703 457 dL_isArchive_703 (by decide) ?_
                                      refine g_ls [1, 2, 3, 4, 5, 6, 7, 8, 9, 10, 11, 0] [(0, .ref B), (1, .int v1_885), (2, .int v2_886), (3, .int v3_887), (4, .int v4_888), (5, .int v5_889), (6, .int v6_890), (7, .int v7_891), (8, .int v8_892), (9, .int v9_893), (10, .int v10_894), (11, .int (v11_895 + 1))] rfl ?_
                                      exact ih M v1_885 v2_886 v3_887 v4_888 v5_889 v6_890 v7_891 v8_892 v9_893 v10_894 (v11_895 + 1) hr
                                    · have hr := (if_neg hc_1005).symm.trans hr
                                      refine g_iconst hx 698 (0) dL_isArchive_698 rfl ?_
                                      exact g_zret hx hR 699 (Or.inl rfl) dL_isArchive_699 ⟨by rw [← Option.some.inj hr] <;> rfl, by rw [← Option.some.inj hr] <;> rfl⟩
                                  refine g_if_ge hx 687 694 dL_isArchive_687 (by decide) (fun hc_1006 => ?_) (fun hc_1006 => ?_)
                                  · have hr := (if_pos hc_1006).symm.trans hr
                                    refine g_iconst hx 694 (0) dL_isArchive_694 rfl ?_
                                    refine g_ls [0, 1, 2, 3, 4, 5, 6, 7, 8, 9, 10, 11] [(0, .ref B), (1, .int v1_885), (2, .int v2_886), (3, .int v3_887), (4, .int v4_888), (5, .int v5_889), (6, .int v6_890), (7, .int v7_891), (8, .int v8_892), (9, .int v9_893), (10, .int v10_894), (11, .int v11_895)] rfl ?_
                                    exact J_1004 0 hr
                                  · have hr := (if_neg hc_1006).symm.trans hr
                                    refine g_iconst hx 690 (1) dL_isArchive_690 rfl ?_
                                    refine g_goto hx 691 695 dL_isArchive_691 (by decide) ?_
                                    refine g_ls [0, 1, 2, 3, 4, 5, 6, 7, 8, 9, 10, 11] [(0, .ref B), (1, .int v1_885), (2, .int v2_886), (3, .int v3_887), (4, .int v4_888), (5, .int v5_889), (6, .int v6_890), (7, .int v7_891), (8, .int v8_892), (9, .int v9_893), (10, .int v10_894), (11, .int v11_895)] rfl ?_
                                    exact J_1004 1 hr
                                refine g_if_ne hx 673 680 dL_isArchive_673 (by decide) (fun hc_1007 => ?_) (fun hc_1007 => ?_)
                                · have hr := (if_neg hc_1007).symm.trans hr
                                  refine g_iconst hx 680 (0) dL_isArchive_680 rfl ?_
                                  refine g_ls [0, 1, 2, 3, 4, 5, 6, 7, 8, 9, 10, 11] [(0, .ref B), (1, .int v1_885), (2, .int v2_886), (3, .int v3_887), (4, .int v4_888), (5, .int v5_889), (6, .int v6_890), (7, .int v7_891), (8, .int v8_892), (9, .int v9_893), (10, .int v10_894), (11, .int v11_895)] rfl ?_
                                  exact J_1001 0 hr
                                · have hr := (if_pos hc_1007).symm.trans hr
                                  refine g_iconst hx 676 (1) dL_isArchive_676 rfl ?_
                                  refine g_goto hx 677 681 dL_isArchive_677 (by decide) ?_
                                  refine g_ls [0, 1, 2, 3, 4, 5, 6, 7, 8, 9, 10, 11] [(0, .ref B), (1, .int v1_885), (2, .int v2_886), (3, .int v3_887), (4, .int v4_888), (5, .int v5_889), (6, .int v6_890), (7, .int v7_891), (8, .int v8_892), (9, .int v9_893), (10, .int v10_894), (11, .int v11_895)] rfl ?_
                                  exact J_1001 1 hr
                      refine g_if_ne hx 592 619 dL_isArchive_592 (by decide) (fun hc_1008 => ?_) (fun hc_1008 => ?_)
                      · have hr := (if_neg hc_1008).symm.trans hr
                        refine g_ls [0, 1, 2, 3, 4, 5, 6, 7, 8, 9, 10, 11, 12, 13, 14] [(0, .ref B), (1, .int v1_885), (2, .int v2_886), (3, .int v3_887), (4, .int v4_888), (5, .int v5_889), (6, .int v6_890), (7, .int v7_891), (8, .int v8_892), (9, .int v9_893), (10, .int v10_894), (11, .int v11_895), (12, .int q_965), (13, .int q_966), (14, .int q_967)] rfl ?_
                        exact J_989 hr
                      · have hr := (if_pos hc_1008).symm.trans hr
                        refine g_aload_n hx 595 (i := 0) 0 dL_isArchive_595 rfl rfl ?_
                        refine g_iload hx 596 (i := 13) 13 dL_isArchive_596 rfl ?_
                        refine g_bipush hx 598 (6) dL_isArchive_598 rfl ?_
                        obtain ⟨q_1009, eq_1009, hr⟩ := bind_e hr
                        refine g_callVr hx (c_SA_folder l g hC σ B M q_966 6 eq_1009) lk_L_37 ar_SA_folder (pW σ B ae M 0 (by decide)) (T := TX10) (N := 11) rfl (As := [.int q_966, .int 6]) (rest := []) rfl (Nat.le_of_ble_eq_true rfl) ⟨Nat.le_of_ble_eq_true rfl, Nat.le_of_ble_eq_true rfl⟩ ⟨rfl, rfl⟩ ⟨Nat.zero_le _, Nat.zero_le _⟩ dL_isArchive_600 ?_
                        refine g_iconst hx 603 (1) dL_isArchive_603 rfl ?_
                        refine g_icmp_eq hx 604 698 dL_isArchive_604 (by decide) (fun hc_1010 => ?_) (fun hc_1010 => ?_)
                        · have hr := (if_pos hc_1010).symm.trans hr
                          refine g_iconst hx 698 (0) dL_isArchive_698 rfl ?_
                          exact g_zret hx hR 699 (Or.inl rfl) dL_isArchive_699 ⟨by rw [← Option.some.inj hr] <;> rfl, by rw [← Option.some.inj hr] <;> rfl⟩
                        · have hr := (if_neg hc_1010).symm.trans hr
                          refine g_aload_n hx 607 (i := 0) 0 dL_isArchive_607 rfl rfl ?_
                          refine g_iload hx 608 (i := 14) 14 dL_isArchive_608 rfl ?_
                          refine g_iconst hx 610 (0) dL_isArchive_610 rfl ?_
                          obtain ⟨q_1011, eq_1011, hr⟩ := bind_e hr
                          refine g_callVr hx (c_SA_reader l g hC σ B M q_967 0 eq_1011) lk_L_44 ar_SA_reader (pW σ B ae M 0 (by decide)) (T := TX10) (N := 11) rfl (As := [.int q_967, .int 0]) (rest := []) rfl (Nat.le_of_ble_eq_true rfl) ⟨Nat.le_of_ble_eq_true rfl, Nat.le_of_ble_eq_true rfl⟩ ⟨rfl, rfl⟩ ⟨Nat.zero_le _, Nat.zero_le _⟩ dL_isArchive_611 ?_
                          refine g_iload hx 614 (i := 10) 10 dL_isArchive_614 rfl ?_
                          refine g_icmp_ge hx 616 698 dL_isArchive_616 (by decide) (fun hc_1012 => ?_) (fun hc_1012 => ?_)
                          · have hr := (if_pos hc_1012).symm.trans hr
                            refine g_iconst hx 698 (0) dL_isArchive_698 rfl ?_
                            exact g_zret hx hR 699 (Or.inl rfl) dL_isArchive_699 ⟨by rw [← Option.some.inj hr] <;> rfl, by rw [← Option.some.inj hr] <;> rfl⟩
                          · have hr := (if_neg hc_1012).symm.trans hr
                            refine g_ls [0, 1, 2, 3, 4, 5, 6, 7, 8, 9, 10, 11, 12, 13, 14] [(0, .ref B), (1, .int v1_885), (2, .int v2_886), (3, .int v3_887), (4, .int v4_888), (5, .int v5_889), (6, .int v6_890), (7, .int v7_891), (8, .int v8_892), (9, .int v9_893), (10, .int v10_894), (11, .int v11_895), (12, .int q_965), (13, .int q_966), (14, .int q_967)] rfl ?_
                            exact J_989 hr
                    refine g_icmp_ne hx 575 590 dL_isArchive_575 (by decide) (fun hc_1013 => ?_) (fun hc_1013 => ?_)
                    · have hr := (if_neg hc_1013).symm.trans hr
                      refine g_ls [0, 1, 2, 3, 4, 5, 6, 7, 8, 9, 10, 11, 12, 13, 14] [(0, .ref B), (1, .int v1_885), (2, .int v2_886), (3, .int v3_887), (4, .int v4_888), (5, .int v5_889), (6, .int v6_890), (7, .int v7_891), (8, .int v8_892), (9, .int v9_893), (10, .int v10_894), (11, .int v11_895), (12, .int q_965), (13, .int q_966), (14, .int q_967)] rfl ?_
                      exact J_987 hr
                    · have hr := (if_pos hc_1013).symm.trans hr
                      refine g_aload_n hx 578 (i := 0) 0 dL_isArchive_578 rfl rfl ?_
                      refine g_iload hx 579 (i := 14) 14 dL_isArchive_579 rfl ?_
                      refine g_iconst hx 581 (0) dL_isArchive_581 rfl ?_
                      obtain ⟨q_1014, eq_1014, hr⟩ := bind_e hr
                      refine g_callVr hx (c_SA_reader l g hC σ B M q_967 0 eq_1014) lk_L_44 ar_SA_reader (pW σ B ae M 0 (by decide)) (T := TX10) (N := 11) rfl (As := [.int q_967, .int 0]) (rest := []) rfl (Nat.le_of_ble_eq_true rfl) ⟨Nat.le_of_ble_eq_true rfl, Nat.le_of_ble_eq_true rfl⟩ ⟨rfl, rfl⟩ ⟨Nat.zero_le _, Nat.zero_le _⟩ dL_isArchive_582 ?_
                      refine g_iload hx 585 (i := 10) 10 dL_isArchive_585 rfl ?_
                      refine g_icmp_lt hx 587 698 dL_isArchive_587 (by decide) (fun hc_1015 => ?_) (fun hc_1015 => ?_)
                      · have hr := (if_pos hc_1015).symm.trans hr
                        refine g_iconst hx 698 (0) dL_isArchive_698 rfl ?_
                        exact g_zret hx hR 699 (Or.inl rfl) dL_isArchive_699 ⟨by rw [← Option.some.inj hr] <;> rfl, by rw [← Option.some.inj hr] <;> rfl⟩
                      · have hr := (if_neg hc_1015).symm.trans hr
                        refine g_ls [0, 1, 2, 3, 4, 5, 6, 7, 8, 9, 10, 11, 12, 13, 14] [(0, .ref B), (1, .int v1_885), (2, .int v2_886), (3, .int v3_887), (4, .int v4_888), (5, .int v5_889), (6, .int v6_890), (7, .int v7_891), (8, .int v8_892), (9, .int v9_893), (10, .int v10_894), (11, .int v11_895), (12, .int q_965), (13, .int q_966), (14, .int q_967)] rfl ?_
                        exact J_987 hr
                  refine g_icmp_ne hx 558 572 dL_isArchive_558 (by decide) (fun hc_1016 => ?_) (fun hc_1016 => ?_)
                  · have hr := (if_neg hc_1016).symm.trans hr
                    refine g_ls [0, 1, 2, 3, 4, 5, 6, 7, 8, 9, 10, 11, 12, 13, 14] [(0, .ref B), (1, .int v1_885), (2, .int v2_886), (3, .int v3_887), (4, .int v4_888), (5, .int v5_889), (6, .int v6_890), (7, .int v7_891), (8, .int v8_892), (9, .int v9_893), (10, .int v10_894), (11, .int v11_895), (12, .int q_965), (13, .int q_966), (14, .int q_967)] rfl ?_
                    exact J_985 hr
                  · have hr := (if_pos hc_1016).symm.trans hr
                    refine g_aload_n hx 561 (i := 0) 0 dL_isArchive_561 rfl rfl ?_
                    refine g_iload hx 562 (i := 13) 13 dL_isArchive_562 rfl ?_
                    refine g_bipush hx 564 (6) dL_isArchive_564 rfl ?_
                    obtain ⟨q_1017, eq_1017, hr⟩ := bind_e hr
                    refine g_callVr hx (c_SA_folder l g hC σ B M q_966 6 eq_1017) lk_L_37 ar_SA_folder (pW σ B ae M 0 (by decide)) (T := TX10) (N := 11) rfl (As := [.int q_966, .int 6]) (rest := []) rfl (Nat.le_of_ble_eq_true rfl) ⟨Nat.le_of_ble_eq_true rfl, Nat.le_of_ble_eq_true rfl⟩ ⟨rfl, rfl⟩ ⟨Nat.zero_le _, Nat.zero_le _⟩ dL_isArchive_566 ?_
                    refine g_if_eq hx 569 698 dL_isArchive_569 (by decide) (fun hc_1018 => ?_) (fun hc_1018 => ?_)
                    · have hr := (if_pos hc_1018).symm.trans hr
                      refine g_iconst hx 698 (0) dL_isArchive_698 rfl ?_
                      exact g_zret hx hR 699 (Or.inl rfl) dL_isArchive_699 ⟨by rw [← Option.some.inj hr] <;> rfl, by rw [← Option.some.inj hr] <;> rfl⟩
                    · have hr := (if_neg hc_1018).symm.trans hr
                      refine g_ls [0, 1, 2, 3, 4, 5, 6, 7, 8, 9, 10, 11, 12, 13, 14] [(0, .ref B), (1, .int v1_885), (2, .int v2_886), (3, .int v3_887), (4, .int v4_888), (5, .int v5_889), (6, .int v6_890), (7, .int v7_891), (8, .int v8_892), (9, .int v9_893), (10, .int v10_894), (11, .int v11_895), (12, .int q_965), (13, .int q_966), (14, .int q_967)] rfl ?_
                      exact J_985 hr
              refine g_icmp_ne hx 544 551 dL_isArchive_544 (by decide) (fun hc_1019 => ?_) (fun hc_1019 => ?_)
              · have hr := (if_neg hc_1019).symm.trans hr
                refine g_iconst hx 551 (0) dL_isArchive_551 rfl ?_
                refine g_ls [0, 1, 2, 3, 4, 5, 6, 7, 8, 9, 10, 11, 12, 13, 14] [(0, .ref B), (1, .int v1_885), (2, .int v2_886), (3, .int v3_887), (4, .int v4_888), (5, .int v5_889), (6, .int v6_890), (7, .int v7_891), (8, .int v8_892), (9, .int v9_893), (10, .int v10_894), (11, .int v11_895), (12, .int q_965), (13, .int q_966), (14, .int q_967)] rfl ?_
                exact J_982 0 hr
              · have hr := (if_pos hc_1019).symm.trans hr
                refine g_iconst hx 547 (1) dL_isArchive_547 rfl ?_
                refine g_goto hx 548 552 dL_isArchive_548 (by decide) ?_
                refine g_ls [0, 1, 2, 3, 4, 5, 6, 7, 8, 9, 10, 11, 12, 13, 14] [(0, .ref B), (1, .int v1_885), (2, .int v2_886), (3, .int v3_887), (4, .int v4_888), (5, .int v5_889), (6, .int v6_890), (7, .int v7_891), (8, .int v8_892), (9, .int v9_893), (10, .int v10_894), (11, .int v11_895), (12, .int q_965), (13, .int q_966), (14, .int q_967)] rfl ?_
                exact J_982 1 hr
            refine g_icmp_ne hx 528 535 dL_isArchive_528 (by decide) (fun hc_1020 => ?_) (fun hc_1020 => ?_)
            · have hr := (if_neg hc_1020).symm.trans hr
              refine g_iconst hx 535 (0) dL_isArchive_535 rfl ?_
              refine g_ls [0, 1, 2, 3, 4, 5, 6, 7, 8, 9, 10, 11, 12, 13, 14] [(0, .ref B), (1, .int v1_885), (2, .int v2_886), (3, .int v3_887), (4, .int v4_888), (5, .int v5_889), (6, .int v6_890), (7, .int v7_891), (8, .int v8_892), (9, .int v9_893), (10, .int v10_894), (11, .int v11_895), (12, .int q_965), (13, .int q_966), (14, .int q_967)] rfl ?_
              exact J_978 0 hr
            · have hr := (if_pos hc_1020).symm.trans hr
              refine g_iconst hx 531 (1) dL_isArchive_531 rfl ?_
              refine g_goto hx 532 536 dL_isArchive_532 (by decide) ?_
              refine g_ls [0, 1, 2, 3, 4, 5, 6, 7, 8, 9, 10, 11, 12, 13, 14] [(0, .ref B), (1, .int v1_885), (2, .int v2_886), (3, .int v3_887), (4, .int v4_888), (5, .int v5_889), (6, .int v6_890), (7, .int v7_891), (8, .int v8_892), (9, .int v9_893), (10, .int v10_894), (11, .int v11_895), (12, .int q_965), (13, .int q_966), (14, .int q_967)] rfl ?_
              exact J_978 1 hr
        refine g_icmp_ne hx 514 521 dL_isArchive_514 (by decide) (fun hc_1021 => ?_) (fun hc_1021 => ?_)
        · have hr := (if_neg hc_1021).symm.trans hr
          refine g_iconst hx 521 (0) dL_isArchive_521 rfl ?_
          refine g_ls [0, 1, 2, 3, 4, 5, 6, 7, 8, 9, 10, 11, 12, 13, 14] [(0, .ref B), (1, .int v1_885), (2, .int v2_886), (3, .int v3_887), (4, .int v4_888), (5, .int v5_889), (6, .int v6_890), (7, .int v7_891), (8, .int v8_892), (9, .int v9_893), (10, .int v10_894), (11, .int v11_895), (12, .int q_965), (13, .int q_966), (14, .int q_967)] rfl ?_
          exact J_974 0 hr
        · have hr := (if_pos hc_1021).symm.trans hr
          refine g_iconst hx 517 (1) dL_isArchive_517 rfl ?_
          refine g_goto hx 518 522 dL_isArchive_518 (by decide) ?_
          refine g_ls [0, 1, 2, 3, 4, 5, 6, 7, 8, 9, 10, 11, 12, 13, 14] [(0, .ref B), (1, .int v1_885), (2, .int v2_886), (3, .int v3_887), (4, .int v4_888), (5, .int v5_889), (6, .int v6_890), (7, .int v7_891), (8, .int v8_892), (9, .int v9_893), (10, .int v10_894), (11, .int v11_895), (12, .int q_965), (13, .int q_966), (14, .int q_967)] rfl ?_
          exact J_974 1 hr
      refine g_icmp_ne hx 498 505 dL_isArchive_498 (by decide) (fun hc_1022 => ?_) (fun hc_1022 => ?_)
      · have hr := (if_neg hc_1022).symm.trans hr
        refine g_iconst hx 505 (0) dL_isArchive_505 rfl ?_
        refine g_ls [3, 4, 5, 6, 7, 8, 9, 10, 11, 12, 13, 14, 2, 1, 0] [(0, .ref B), (1, .int v1_885), (2, .int v2_886), (3, .int v3_887), (4, .int v4_888), (5, .int v5_889), (6, .int v6_890), (7, .int v7_891), (8, .int v8_892), (9, .int v9_893), (10, .int v10_894), (11, .int v11_895), (12, .int q_965), (13, .int q_966), (14, .int q_967)] rfl ?_
        exact J_970 0 hr
      · have hr := (if_pos hc_1022).symm.trans hr
        refine g_iconst hx 501 (1) dL_isArchive_501 rfl ?_
        refine g_goto hx 502 506 dL_isArchive_502 (by decide) ?_
        refine g_ls [3, 4, 5, 6, 7, 8, 9, 10, 11, 12, 13, 14, 2, 1, 0] [(0, .ref B), (1, .int v1_885), (2, .int v2_886), (3, .int v3_887), (4, .int v4_888), (5, .int v5_889), (6, .int v6_890), (7, .int v7_891), (8, .int v8_892), (9, .int v9_893), (10, .int v10_894), (11, .int v11_895), (12, .int q_965), (13, .int q_966), (14, .int q_967)] rfl ?_
        exact J_970 1 hr
set_option maxRecDepth 100000 in
set_option maxHeartbeats 4000000 in
theorem w_Lw_isArchive_L400 {ad ae : Nat → Nat} {X : Cx} {l : Launch} {g : Gl} (hx : Ok X l g RL cL_isArchive 15 md_Lw_isArchive.rm) (hC : KAll g ad ae) {σ : Hp} {B : Nat} {r : Int32 × WM} (hR : Ret X (rs (some (.int r.1)) (putW σ B ae r.2)) 0 0 (some .boolean)) : ∀ (n : Nat) (M : WM) (v1_872 v2_873 v3_874 v4_875 v5_876 v6_877 v7_878 v8_879 v9_880 v10_881 v11_882 : Int32), Lw_isArchive_L400 n M v1_872 v2_873 v3_874 v4_875 v5_876 v6_877 v7_878 v8_879 v9_880 v10_881 v11_882 = some r → G X (putW σ B ae M) 0 0 400 [(0, .ref B), (1, .int v1_872), (2, .int v2_873), (3, .int v3_874), (4, .int v4_875), (5, .int v5_876), (6, .int v6_877), (7, .int v7_878), (8, .int v8_879), (9, .int v9_880), (10, .int v10_881), (11, .int v11_882)] [] := by
  intro n
  induction n with
  | zero =>
    intro M v1_872 v2_873 v3_874 v4_875 v5_876 v6_877 v7_878 v8_879 v9_880 v10_881 v11_882 hr
    rw [Lw_isArchive_L400] at hr
    cases hr
  | succ n ih =>
    intro M v1_872 v2_873 v3_874 v4_875 v5_876 v6_877 v7_878 v8_879 v9_880 v10_881 v11_882 hr
    rw [Lw_isArchive_L400] at hr
    refine g_iload hx 400 (i := 11) 11 dL_isArchive_400 rfl ?_
    refine g_aload_n hx 402 (i := 0) 0 dL_isArchive_402 rfl rfl ?_
    refine g_iconst hx 403 (3) dL_isArchive_403 rfl ?_
    obtain ⟨q_883, eq_883, hr⟩ := bind_e hr
    refine g_callVr hx (c_SA_size l g hC σ B M 3 eq_883) lk_L_30 ar_SA_size (pW σ B ae M 0 (by decide)) (T := TX10) (N := 11) rfl (As := [.int 3]) (rest := [.int v11_882]) rfl (Nat.le_of_ble_eq_true rfl) ⟨Nat.le_of_ble_eq_true rfl, Nat.le_of_ble_eq_true rfl⟩ ⟨rfl, rfl⟩ ⟨Nat.zero_le _, Nat.zero_le _⟩ dL_isArchive_404 ?_
    refine g_icmp_ge hx 407 454 dL_isArchive_407 (by decide) (fun hc_884 => ?_) (fun hc_884 => ?_)
    · have hr := (if_pos hc_884).symm.trans hr
      refine g_iconst hx 454 (0) dL_isArchive_454 rfl ?_
      refine g_istore hx 455 (i := 11) [(11, .int 0), (0, .ref B), (1, .int v1_872), (2, .int v2_873), (3, .int v3_874), (4, .int v4_875), (5, .int v5_876), (6, .int v6_877), (7, .int v7_878), (8, .int v8_879), (9, .int v9_880), (10, .int v10_881)] dL_isArchive_455 (by decide) rfl ?_
      refine g_ls [1, 2, 3, 4, 5, 6, 7, 8, 9, 10, 11, 0] [(0, .ref B), (1, .int v1_872), (2, .int v2_873), (3, .int v3_874), (4, .int v4_875), (5, .int v5_876), (6, .int v6_877), (7, .int v7_878), (8, .int v8_879), (9, .int v9_880), (10, .int v10_881), (11, .int 0)] rfl ?_
      exact w_Lw_isArchive_L457 hx hC hR FU M v1_872 v2_873 v3_874 v4_875 v5_876 v6_877 v7_878 v8_879 v9_880 v10_881 0 hr
    · have hr := (if_neg hc_884).symm.trans hr
      refine g_iload hx 410 (i := 9) 9 dL_isArchive_410 rfl ?_
      refine g_aload_n hx 412 (i := 0) 0 dL_isArchive_412 rfl rfl ?_
      refine g_iload hx 413 (i := 11) 11 dL_isArchive_413 rfl ?_
      refine g_iconst hx 415 (2) dL_isArchive_415 rfl ?_
      obtain ⟨q_1023, eq_1023, hr⟩ := bind_e hr
      refine g_callVr hx (c_SA_reader l g hC σ B M v11_882 2 eq_1023) lk_L_44 ar_SA_reader (pW σ B ae M 0 (by decide)) (T := TX10) (N := 11) rfl (As := [.int v11_882, .int 2]) (rest := [.int v9_880]) rfl (Nat.le_of_ble_eq_true rfl) ⟨Nat.le_of_ble_eq_true rfl, Nat.le_of_ble_eq_true rfl⟩ ⟨rfl, rfl⟩ ⟨Nat.zero_le _, Nat.zero_le _⟩ dL_isArchive_416 ?_
      refine g_iadd hx 419 dL_isArchive_419 ?_
      obtain ⟨v9_1024, ev9_1024, hr⟩ := lt'_e hr
      refine g_nmi ev9_1024 ?_
      refine g_istore hx 420 (i := 9) [(9, .int v9_1024), (0, .ref B), (1, .int v1_872), (2, .int v2_873), (3, .int v3_874), (4, .int v4_875), (5, .int v5_876), (6, .int v6_877), (7, .int v7_878), (8, .int v8_879), (10, .int v10_881), (11, .int v11_882)] dL_isArchive_420 (by decide) rfl ?_
      refine g_iload hx 422 (i := 8) 9 dL_isArchive_422 rfl ?_
      refine g_aload_n hx 424 (i := 0) 1 dL_isArchive_424 rfl rfl ?_
      refine g_iload hx 425 (i := 11) 11 dL_isArchive_425 rfl ?_
      refine g_iconst hx 427 (0) dL_isArchive_427 rfl ?_
      obtain ⟨q_1025, eq_1025, hr⟩ := bind_e hr
      refine g_callVr hx (c_SA_reader l g hC σ B M v11_882 0 eq_1025) lk_L_44 ar_SA_reader (pW σ B ae M 0 (by decide)) (T := TX10) (N := 11) rfl (As := [.int v11_882, .int 0]) (rest := [.int v8_879]) rfl (Nat.le_of_ble_eq_true rfl) ⟨Nat.le_of_ble_eq_true rfl, Nat.le_of_ble_eq_true rfl⟩ ⟨rfl, rfl⟩ ⟨Nat.zero_le _, Nat.zero_le _⟩ dL_isArchive_428 ?_
      refine g_iadd hx 431 dL_isArchive_431 ?_
      obtain ⟨v8_1026, ev8_1026, hr⟩ := lt'_e hr
      refine g_nmi ev8_1026 ?_
      refine g_istore hx 432 (i := 8) [(8, .int v8_1026), (9, .int v9_1024), (0, .ref B), (1, .int v1_872), (2, .int v2_873), (3, .int v3_874), (4, .int v4_875), (5, .int v5_876), (6, .int v6_877), (7, .int v7_878), (10, .int v10_881), (11, .int v11_882)] dL_isArchive_432 (by decide) rfl ?_
      refine g_aload_n hx 434 (i := 0) 2 dL_isArchive_434 rfl rfl ?_
      refine g_iload hx 435 (i := 11) 11 dL_isArchive_435 rfl ?_
      refine g_iconst hx 437 (0) dL_isArchive_437 rfl ?_
      obtain ⟨q_1027, eq_1027, hr⟩ := bind_e hr
      refine g_callVr hx (c_SA_reader l g hC σ B M v11_882 0 eq_1027) lk_L_44 ar_SA_reader (pW σ B ae M 0 (by decide)) (T := TX10) (N := 11) rfl (As := [.int v11_882, .int 0]) (rest := []) rfl (Nat.le_of_ble_eq_true rfl) ⟨Nat.le_of_ble_eq_true rfl, Nat.le_of_ble_eq_true rfl⟩ ⟨rfl, rfl⟩ ⟨Nat.zero_le _, Nat.zero_le _⟩ dL_isArchive_438 ?_
      refine g_iload hx 441 (i := 10) 10 dL_isArchive_441 rfl ?_
      refine g_icmp_le hx 443 448 dL_isArchive_443 (by decide) (fun hc_1028 => ?_) (fun hc_1028 => ?_)
      · have hr := (if_pos hc_1028).symm.trans hr
        refine g_iinc hx 448 (i := 11) 11 (v11_882 + 1) [(11, .int (v11_882 + 1)), (8, .int v8_1026), (9, .int v9_1024), (0, .ref B), (1, .int v1_872), (2, .int v2_873), (3, .int v3_874), (4, .int v4_875), (5, .int v5_876), (6, .int v6_877), (7, .int v7_878), (10, .int v10_881)] dL_isArchive_448 rfl rfl (by decide) rfl ?_
        refine g_goto hx 451 400 dL_isArchive_451 (by decide) ?_
        refine g_ls [3, 4, 5, 6, 7, 8, 9, 10, 1, 2, 11, 0] [(0, .ref B), (1, .int v1_872), (2, .int v2_873), (3, .int v3_874), (4, .int v4_875), (5, .int v5_876), (6, .int v6_877), (7, .int v7_878), (8, .int v8_1026), (9, .int v9_1024), (10, .int v10_881), (11, .int (v11_882 + 1))] rfl ?_
        exact ih M v1_872 v2_873 v3_874 v4_875 v5_876 v6_877 v7_878 v8_1026 v9_1024 v10_881 (v11_882 + 1) hr
      · have hr := (if_neg hc_1028).symm.trans hr
        refine g_iconst hx 446 (0) dL_isArchive_446 rfl ?_
        exact g_zret hx hR 447 (Or.inl rfl) dL_isArchive_447 ⟨by rw [← Option.some.inj hr] <;> rfl, by rw [← Option.some.inj hr] <;> rfl⟩
set_option maxRecDepth 100000 in
set_option maxHeartbeats 4000000 in
theorem w_Lw_isArchive_L202 {ad ae : Nat → Nat} {X : Cx} {l : Launch} {g : Gl} (hx : Ok X l g RL cL_isArchive 15 md_Lw_isArchive.rm) (hC : KAll g ad ae) {σ : Hp} {B : Nat} {r : Int32 × WM} (hR : Ret X (rs (some (.int r.1)) (putW σ B ae r.2)) 0 0 (some .boolean)) : ∀ (n : Nat) (M : WM) (v1_862 v2_863 v3_864 v4_865 v5_866 v6_867 v7_868 v8_869 : Int32), Lw_isArchive_L202 n M v1_862 v2_863 v3_864 v4_865 v5_866 v6_867 v7_868 v8_869 = some r → G X (putW σ B ae M) 0 0 202 [(0, .ref B), (1, .int v1_862), (2, .int v2_863), (3, .int v3_864), (4, .int v4_865), (5, .int v5_866), (6, .int v6_867), (7, .int v7_868), (8, .int v8_869)] [] := by
  intro n
  induction n with
  | zero =>
    intro M v1_862 v2_863 v3_864 v4_865 v5_866 v6_867 v7_868 v8_869 hr
    rw [Lw_isArchive_L202] at hr
    cases hr
  | succ n ih =>
    intro M v1_862 v2_863 v3_864 v4_865 v5_866 v6_867 v7_868 v8_869 hr
    rw [Lw_isArchive_L202] at hr
    refine g_iload hx 202 (i := 8) 8 dL_isArchive_202 rfl ?_
    refine g_iload_n hx 204 (i := 1) 1 dL_isArchive_204 rfl rfl ?_
    refine g_icmp_ge hx 205 384 dL_isArchive_205 (by decide) (fun hc_870 => ?_) (fun hc_870 => ?_)
    · have hr := (if_pos hc_870).symm.trans hr
      refine g_iconst hx 384 (0) dL_isArchive_384 rfl ?_
      refine g_istore hx 385 (i := 8) [(8, .int 0), (0, .ref B), (1, .int v1_862), (2, .int v2_863), (3, .int v3_864), (4, .int v4_865), (5, .int v5_866), (6, .int v6_867), (7, .int v7_868)] dL_isArchive_385 (by decide) rfl ?_
      refine g_iconst hx 387 (0) dL_isArchive_387 rfl ?_
      refine g_istore hx 388 (i := 9) [(9, .int 0), (8, .int 0), (0, .ref B), (1, .int v1_862), (2, .int v2_863), (3, .int v3_864), (4, .int v4_865), (5, .int v5_866), (6, .int v6_867), (7, .int v7_868)] dL_isArchive_388 (by decide) rfl ?_
      refine g_aload_n hx 390 (i := 0) 2 dL_isArchive_390 rfl rfl ?_
      refine g_iconst hx 391 (4) dL_isArchive_391 rfl ?_
      obtain ⟨q_871, eq_871, hr⟩ := bind_e hr
      refine g_callVr hx (c_SA_size l g hC σ B M 4 eq_871) lk_L_30 ar_SA_size (pW σ B ae M 0 (by decide)) (T := TX10) (N := 11) rfl (As := [.int 4]) (rest := []) rfl (Nat.le_of_ble_eq_true rfl) ⟨Nat.le_of_ble_eq_true rfl, Nat.le_of_ble_eq_true rfl⟩ ⟨rfl, rfl⟩ ⟨Nat.zero_le _, Nat.zero_le _⟩ dL_isArchive_392 ?_
      refine g_istore hx 395 (i := 10) [(10, .int q_871), (9, .int 0), (8, .int 0), (0, .ref B), (1, .int v1_862), (2, .int v2_863), (3, .int v3_864), (4, .int v4_865), (5, .int v5_866), (6, .int v6_867), (7, .int v7_868)] dL_isArchive_395 (by decide) rfl ?_
      refine g_iconst hx 397 (0) dL_isArchive_397 rfl ?_
      refine g_istore hx 398 (i := 11) [(11, .int 0), (10, .int q_871), (9, .int 0), (8, .int 0), (0, .ref B), (1, .int v1_862), (2, .int v2_863), (3, .int v3_864), (4, .int v4_865), (5, .int v5_866), (6, .int v6_867), (7, .int v7_868)] dL_isArchive_398 (by decide) rfl ?_
      refine g_ls [4, 5, 6, 7, 8, 9, 10, 11, 3, 2, 1, 0] [(0, .ref B), (1, .int v1_862), (2, .int v2_863), (3, .int v3_864), (4, .int v4_865), (5, .int v5_866), (6, .int v6_867), (7, .int v7_868), (8, .int 0), (9, .int 0), (10, .int q_871), (11, .int 0)] rfl ?_
      exact w_Lw_isArchive_L400 hx hC hR FU M v1_862 v2_863 v3_864 v4_865 v5_866 v6_867 v7_868 0 0 q_871 0 hr
    · have hr := (if_neg hc_870).symm.trans hr
      refine g_aload_n hx 208 (i := 0) 0 dL_isArchive_208 rfl rfl ?_
      refine g_iload hx 209 (i := 8) 8 dL_isArchive_209 rfl ?_
      refine g_callVr hx (c_SA_at l g hC σ B M v8_869 rfl) lk_L_50 ar_SA_at (pW σ B ae M 0 (by decide)) (T := TX10) (N := 11) rfl (As := [.int v8_869]) (rest := []) rfl (Nat.le_of_ble_eq_true rfl) ⟨Nat.le_of_ble_eq_true rfl, Nat.le_of_ble_eq_true rfl⟩ ⟨rfl, rfl⟩ ⟨Nat.zero_le _, Nat.zero_le _⟩ dL_isArchive_211 ?_
      obtain ⟨v9_1029, ev9_1029, hr⟩ := lt'_e hr
      refine g_nmi ev9_1029 ?_
      refine g_istore hx 214 (i := 9) [(9, .int v9_1029), (0, .ref B), (1, .int v1_862), (2, .int v2_863), (3, .int v3_864), (4, .int v4_865), (5, .int v5_866), (6, .int v6_867), (7, .int v7_868), (8, .int v8_869)] dL_isArchive_214 (by decide) rfl ?_
      refine g_aload_n hx 216 (i := 0) 1 dL_isArchive_216 rfl rfl ?_
      refine g_iload hx 217 (i := 9) 0 dL_isArchive_217 rfl ?_
      refine g_iconst hx 219 (0) dL_isArchive_219 rfl ?_
      obtain ⟨q_1030, eq_1030, hr⟩ := bind_e hr
      refine g_callVr hx (c_SA_folder l g hC σ B M v9_1029 0 eq_1030) lk_L_37 ar_SA_folder (pW σ B ae M 0 (by decide)) (T := TX10) (N := 11) rfl (As := [.int v9_1029, .int 0]) (rest := []) rfl (Nat.le_of_ble_eq_true rfl) ⟨Nat.le_of_ble_eq_true rfl, Nat.le_of_ble_eq_true rfl⟩ ⟨rfl, rfl⟩ ⟨Nat.zero_le _, Nat.zero_le _⟩ dL_isArchive_220 ?_
      refine g_istore hx 223 (i := 10) [(10, .int q_1030), (9, .int v9_1029), (0, .ref B), (1, .int v1_862), (2, .int v2_863), (3, .int v3_864), (4, .int v4_865), (5, .int v5_866), (6, .int v6_867), (7, .int v7_868), (8, .int v8_869)] dL_isArchive_223 (by decide) rfl ?_
      refine g_aload_n hx 225 (i := 0) 2 dL_isArchive_225 rfl rfl ?_
      refine g_iload hx 226 (i := 10) 0 dL_isArchive_226 rfl ?_
      obtain ⟨q_1031, eq_1031, hr⟩ := bind_e hr
      refine g_callVr hx (c_SA_found l g hC σ B M q_1030 eq_1031) lk_L_56 ar_SA_found (pW σ B ae M 0 (by decide)) (T := TX10) (N := 11) rfl (As := [.int q_1030]) (rest := []) rfl (Nat.le_of_ble_eq_true rfl) ⟨Nat.le_of_ble_eq_true rfl, Nat.le_of_ble_eq_true rfl⟩ ⟨rfl, rfl⟩ ⟨Nat.zero_le _, Nat.zero_le _⟩ dL_isArchive_228 ?_
      obtain ⟨v11_1032, ev11_1032, hr⟩ := lt'_e hr
      refine g_nmi ev11_1032 ?_
      refine g_istore hx 231 (i := 11) [(11, .int v11_1032), (10, .int q_1030), (9, .int v9_1029), (0, .ref B), (1, .int v1_862), (2, .int v2_863), (3, .int v3_864), (4, .int v4_865), (5, .int v5_866), (6, .int v6_867), (7, .int v7_868), (8, .int v8_869)] dL_isArchive_231 (by decide) rfl ?_
      refine g_aload_n hx 233 (i := 0) 3 dL_isArchive_233 rfl rfl ?_
      refine g_iload hx 234 (i := 10) 1 dL_isArchive_234 rfl ?_
      obtain ⟨q_1033, eq_1033, hr⟩ := bind_e hr
      refine g_callVr hx (c_SA_looks l g hC σ B q_1031.2 q_1030 eq_1033) lk_L_59 ar_SA_looks (pW σ B ae q_1031.2 0 (by decide)) (T := TX10) (N := 11) rfl (As := [.int q_1030]) (rest := []) rfl (Nat.le_of_ble_eq_true rfl) ⟨Nat.le_of_ble_eq_true rfl, Nat.le_of_ble_eq_true rfl⟩ ⟨rfl, rfl⟩ ⟨Nat.zero_le _, Nat.zero_le _⟩ dL_isArchive_236 ?_
      obtain ⟨v12_1034, ev12_1034, hr⟩ := lt'_e hr
      refine g_nmi ev12_1034 ?_
      refine g_istore hx 239 (i := 12) [(12, .int v12_1034), (11, .int v11_1032), (10, .int q_1030), (9, .int v9_1029), (0, .ref B), (1, .int v1_862), (2, .int v2_863), (3, .int v3_864), (4, .int v4_865), (5, .int v5_866), (6, .int v6_867), (7, .int v7_868), (8, .int v8_869)] dL_isArchive_239 (by decide) rfl ?_
      refine g_iload hx 241 (i := 6) 10 dL_isArchive_241 rfl ?_
      refine g_iload hx 243 (i := 11) 1 dL_isArchive_243 rfl ?_
      obtain ⟨c_1036, ec_1036, hr⟩ := lt'_e hr
      have J_1037 : ∀ (t_1035 : Int32), c_1036 t_1035 = some r → G X (putW σ B ae q_1033.2) 0 0 253 [(0, .ref B), (1, .int v1_862), (2, .int v2_863), (3, .int v3_864), (4, .int v4_865), (5, .int v5_866), (7, .int v7_868), (8, .int v8_869), (9, .int v9_1029), (10, .int q_1030), (11, .int v11_1032), (12, .int v12_1034)] [.int t_1035, .int v6_867] := by
        intro t_1035 hr
        have hr := (congrFun ec_1036 t_1035).symm.trans hr
        refine g_iadd hx 253 dL_isArchive_253 ?_
        obtain ⟨v6_1038, ev6_1038, hr⟩ := lt'_e hr
        refine g_nmi ev6_1038 ?_
        refine g_istore hx 254 (i := 6) [(6, .int v6_1038), (0, .ref B), (1, .int v1_862), (2, .int v2_863), (3, .int v3_864), (4, .int v4_865), (5, .int v5_866), (7, .int v7_868), (8, .int v8_869), (9, .int v9_1029), (10, .int q_1030), (11, .int v11_1032), (12, .int v12_1034)] dL_isArchive_254 (by decide) rfl ?_
        refine g_iload hx 256 (i := 7) 7 dL_isArchive_256 rfl ?_
        refine g_iload hx 258 (i := 8) 8 dL_isArchive_258 rfl ?_
        obtain ⟨c_1040, ec_1040, hr⟩ := lt'_e hr
        have J_1041 : ∀ (t_1039 : Int32), c_1040 t_1039 = some r → G X (putW σ B ae q_1033.2) 0 0 286 [(0, .ref B), (1, .int v1_862), (2, .int v2_863), (3, .int v3_864), (4, .int v4_865), (5, .int v5_866), (6, .int v6_1038), (8, .int v8_869), (9, .int v9_1029), (10, .int q_1030), (11, .int v11_1032), (12, .int v12_1034)] [.int t_1039, .int v7_868] := by
          intro t_1039 hr
          have hr := (congrFun ec_1040 t_1039).symm.trans hr
          refine g_iadd hx 286 dL_isArchive_286 ?_
          obtain ⟨v7_1042, ev7_1042, hr⟩ := lt'_e hr
          refine g_nmi ev7_1042 ?_
          refine g_istore hx 287 (i := 7) [(7, .int v7_1042), (0, .ref B), (1, .int v1_862), (2, .int v2_863), (3, .int v3_864), (4, .int v4_865), (5, .int v5_866), (6, .int v6_1038), (8, .int v8_869), (9, .int v9_1029), (10, .int q_1030), (11, .int v11_1032), (12, .int v12_1034)] dL_isArchive_287 (by decide) rfl ?_
          refine g_iload hx 289 (i := 11) 11 dL_isArchive_289 rfl ?_
          obtain ⟨c_1044, ec_1044, hr⟩ := lt'_e hr
          have J_1045 : ∀ (M_1043 : WM), c_1044 M_1043 = some r → G X (putW σ B ae M_1043) 0 0 327 [(0, .ref B), (1, .int v1_862), (2, .int v2_863), (3, .int v3_864), (4, .int v4_865), (5, .int v5_866), (6, .int v6_1038), (7, .int v7_1042), (8, .int v8_869), (9, .int v9_1029), (10, .int q_1030), (11, .int v11_1032), (12, .int v12_1034)] [] := by
            intro M_1043 hr
            have hr := (congrFun ec_1044 M_1043).symm.trans hr
            refine g_iload hx 327 (i := 11) 11 dL_isArchive_327 rfl ?_
            obtain ⟨c_1047, ec_1047, hr⟩ := lt'_e hr
            have J_1048 : ∀ (M_1046 : WM), c_1047 M_1046 = some r → G X (putW σ B ae M_1046) 0 0 352 [(0, .ref B), (1, .int v1_862), (2, .int v2_863), (3, .int v3_864), (4, .int v4_865), (5, .int v5_866), (6, .int v6_1038), (7, .int v7_1042), (8, .int v8_869), (10, .int q_1030), (12, .int v12_1034)] [] := by
              intro M_1046 hr
              have hr := (congrFun ec_1047 M_1046).symm.trans hr
              refine g_iload hx 352 (i := 12) 10 dL_isArchive_352 rfl ?_
              refine g_iconst hx 354 (1) dL_isArchive_354 rfl ?_
              refine g_icmp_lt hx 355 376 dL_isArchive_355 (by decide) (fun hc_1049 => ?_) (fun hc_1049 => ?_)
              · have hr := (if_pos hc_1049).symm.trans hr
                refine g_iconst hx 376 (0) dL_isArchive_376 rfl ?_
                exact g_zret hx hR 377 (Or.inl rfl) dL_isArchive_377 ⟨by rw [← Option.some.inj hr] <;> rfl, by rw [← Option.some.inj hr] <;> rfl⟩
              · have hr := (if_neg hc_1049).symm.trans hr
                refine g_iload hx 358 (i := 12) 10 dL_isArchive_358 rfl ?_
                refine g_iconst hx 360 (5) dL_isArchive_360 rfl ?_
                refine g_icmp_gt hx 361 376 dL_isArchive_361 (by decide) (fun hc_1050 => ?_) (fun hc_1050 => ?_)
                · have hr := (if_pos hc_1050).symm.trans hr
                  refine g_iconst hx 376 (0) dL_isArchive_376 rfl ?_
                  exact g_zret hx hR 377 (Or.inl rfl) dL_isArchive_377 ⟨by rw [← Option.some.inj hr] <;> rfl, by rw [← Option.some.inj hr] <;> rfl⟩
                · have hr := (if_neg hc_1050).symm.trans hr
                  refine g_aload_n hx 364 (i := 0) 0 dL_isArchive_364 rfl rfl ?_
                  refine g_iload hx 365 (i := 10) 9 dL_isArchive_365 rfl ?_
                  refine g_iload hx 367 (i := 12) 10 dL_isArchive_367 rfl ?_
                  obtain ⟨q_1051, eq_1051, hr⟩ := bind_e hr
                  refine g_callVr hx (c_SA_lookedAt l g hC σ B M_1046 q_1030 v12_1034 eq_1051) lk_L_62 ar_SA_lookedAt (pW σ B ae M_1046 0 (by decide)) (T := TX10) (N := 11) rfl (As := [.int q_1030, .int v12_1034]) (rest := []) rfl (Nat.le_of_ble_eq_true rfl) ⟨Nat.le_of_ble_eq_true rfl, Nat.le_of_ble_eq_true rfl⟩ ⟨rfl, rfl⟩ ⟨Nat.zero_le _, Nat.zero_le _⟩ dL_isArchive_369 ?_
                  refine g_iconst hx 372 (-1) dL_isArchive_372 rfl ?_
                  refine g_icmp_eq hx 373 378 dL_isArchive_373 (by decide) (fun hc_1052 => ?_) (fun hc_1052 => ?_)
                  · have hr := (if_pos hc_1052).symm.trans hr
                    refine g_iinc hx 378 (i := 8) 8 (v8_869 + 1) [(8, .int (v8_869 + 1)), (0, .ref B), (1, .int v1_862), (2, .int v2_863), (3, .int v3_864), (4, .int v4_865), (5, .int v5_866), (6, .int v6_1038), (7, .int v7_1042), (10, .int q_1030), (12, .int v12_1034)] dL_isArchive_378 rfl rfl (by decide) rfl ?_
                    refine g_goto hx 381 202 dL_isArchive_381 (by decide) ?_
                    refine g_ls [1, 2, 3, 4, 5, 6, 7, 8, 0] [(0, .ref B), (1, .int v1_862), (2, .int v2_863), (3, .int v3_864), (4, .int v4_865), (5, .int v5_866), (6, .int v6_1038), (7, .int v7_1042), (8, .int (v8_869 + 1))] rfl ?_
                    exact ih q_1051.2 v1_862 v2_863 v3_864 v4_865 v5_866 v6_1038 v7_1042 (v8_869 + 1) hr
                  · have hr := (if_neg hc_1052).symm.trans hr
                    refine g_iconst hx 376 (0) dL_isArchive_376 rfl ?_
                    exact g_zret hx hR 377 (Or.inl rfl) dL_isArchive_377 ⟨by rw [← Option.some.inj hr] <;> rfl, by rw [← Option.some.inj hr] <;> rfl⟩
            refine g_if_ge hx 329 352 dL_isArchive_329 (by decide) (fun hc_1053 => ?_) (fun hc_1053 => ?_)
            · have hr := (if_pos hc_1053).symm.trans hr
              refine g_ls [0, 1, 2, 3, 4, 5, 6, 7, 8, 10, 12] [(0, .ref B), (1, .int v1_862), (2, .int v2_863), (3, .int v3_864), (4, .int v4_865), (5, .int v5_866), (6, .int v6_1038), (7, .int v7_1042), (8, .int v8_869), (10, .int q_1030), (12, .int v12_1034)] rfl ?_
              exact J_1048 M_1043 hr
            · have hr := (if_neg hc_1053).symm.trans hr
              refine g_iload hx 332 (i := 12) 12 dL_isArchive_332 rfl ?_
              refine g_if_le hx 334 352 dL_isArchive_334 (by decide) (fun hc_1054 => ?_) (fun hc_1054 => ?_)
              · have hr := (if_pos hc_1054).symm.trans hr
                refine g_ls [0, 1, 2, 3, 4, 5, 6, 7, 8, 10, 12] [(0, .ref B), (1, .int v1_862), (2, .int v2_863), (3, .int v3_864), (4, .int v4_865), (5, .int v5_866), (6, .int v6_1038), (7, .int v7_1042), (8, .int v8_869), (10, .int q_1030), (12, .int v12_1034)] rfl ?_
                exact J_1048 M_1043 hr
              · have hr := (if_neg hc_1054).symm.trans hr
                refine g_aload_n hx 337 (i := 0) 0 dL_isArchive_337 rfl rfl ?_
                refine g_iload hx 338 (i := 10) 10 dL_isArchive_338 rfl ?_
                refine g_iload hx 340 (i := 12) 12 dL_isArchive_340 rfl ?_
                refine g_iconst hx 342 (1) dL_isArchive_342 rfl ?_
                refine g_isub hx 343 dL_isArchive_343 ?_
                obtain ⟨q_1055, eq_1055, hr⟩ := bind_e hr
                refine g_callVr hx (c_SA_lookedAt l g hC σ B M_1043 q_1030 (v12_1034 - 1) eq_1055) lk_L_62 ar_SA_lookedAt (pW σ B ae M_1043 0 (by decide)) (T := TX10) (N := 11) rfl (As := [.int q_1030, .int (v12_1034 - 1)]) (rest := []) rfl (Nat.le_of_ble_eq_true rfl) ⟨Nat.le_of_ble_eq_true rfl, Nat.le_of_ble_eq_true rfl⟩ ⟨rfl, rfl⟩ ⟨Nat.zero_le _, Nat.zero_le _⟩ dL_isArchive_344 ?_
                refine g_iload hx 347 (i := 9) 9 dL_isArchive_347 rfl ?_
                refine g_icmp_eq hx 349 376 dL_isArchive_349 (by decide) (fun hc_1056 => ?_) (fun hc_1056 => ?_)
                · have hr := (if_pos hc_1056).symm.trans hr
                  refine g_iconst hx 376 (0) dL_isArchive_376 rfl ?_
                  exact g_zret hx hR 377 (Or.inl rfl) dL_isArchive_377 ⟨by rw [← Option.some.inj hr] <;> rfl, by rw [← Option.some.inj hr] <;> rfl⟩
                · have hr := (if_neg hc_1056).symm.trans hr
                  refine g_ls [0, 1, 2, 3, 4, 5, 6, 7, 8, 10, 12] [(0, .ref B), (1, .int v1_862), (2, .int v2_863), (3, .int v3_864), (4, .int v4_865), (5, .int v5_866), (6, .int v6_1038), (7, .int v7_1042), (8, .int v8_869), (10, .int q_1030), (12, .int v12_1034)] rfl ?_
                  exact J_1048 q_1055.2 hr
          refine g_if_lt hx 291 327 dL_isArchive_291 (by decide) (fun hc_1057 => ?_) (fun hc_1057 => ?_)
          · have hr := (if_pos hc_1057).symm.trans hr
            refine g_ls [1, 2, 3, 4, 5, 6, 7, 0, 8, 9, 10, 11, 12] [(0, .ref B), (1, .int v1_862), (2, .int v2_863), (3, .int v3_864), (4, .int v4_865), (5, .int v5_866), (6, .int v6_1038), (7, .int v7_1042), (8, .int v8_869), (9, .int v9_1029), (10, .int q_1030), (11, .int v11_1032), (12, .int v12_1034)] rfl ?_
            exact J_1045 q_1033.2 hr
          · have hr := (if_neg hc_1057).symm.trans hr
            refine g_iload hx 294 (i := 11) 11 dL_isArchive_294 rfl ?_
            refine g_iload hx 296 (i := 8) 8 dL_isArchive_296 rfl ?_
            refine g_icmp_ne hx 298 376 dL_isArchive_298 (by decide) (fun hc_1058 => ?_) (fun hc_1058 => ?_)
            · have hr := (if_neg hc_1058).symm.trans hr
              refine g_iconst hx 376 (0) dL_isArchive_376 rfl ?_
              exact g_zret hx hR 377 (Or.inl rfl) dL_isArchive_377 ⟨by rw [← Option.some.inj hr] <;> rfl, by rw [← Option.some.inj hr] <;> rfl⟩
            · have hr := (if_pos hc_1058).symm.trans hr
              refine g_aload_n hx 301 (i := 0) 1 dL_isArchive_301 rfl rfl ?_
              refine g_iload hx 302 (i := 10) 10 dL_isArchive_302 rfl ?_
              refine g_iload hx 304 (i := 12) 12 dL_isArchive_304 rfl ?_
              refine g_iconst hx 306 (1) dL_isArchive_306 rfl ?_
              refine g_isub hx 307 dL_isArchive_307 ?_
              obtain ⟨q_1059, eq_1059, hr⟩ := bind_e hr
              refine g_callVr hx (c_SA_lookedAt l g hC σ B q_1033.2 q_1030 (v12_1034 - 1) eq_1059) lk_L_62 ar_SA_lookedAt (pW σ B ae q_1033.2 0 (by decide)) (T := TX10) (N := 11) rfl (As := [.int q_1030, .int (v12_1034 - 1)]) (rest := []) rfl (Nat.le_of_ble_eq_true rfl) ⟨Nat.le_of_ble_eq_true rfl, Nat.le_of_ble_eq_true rfl⟩ ⟨rfl, rfl⟩ ⟨Nat.zero_le _, Nat.zero_le _⟩ dL_isArchive_308 ?_
              refine g_iload hx 311 (i := 9) 9 dL_isArchive_311 rfl ?_
              refine g_icmp_ne hx 313 376 dL_isArchive_313 (by decide) (fun hc_1060 => ?_) (fun hc_1060 => ?_)
              · have hr := (if_neg hc_1060).symm.trans hr
                refine g_iconst hx 376 (0) dL_isArchive_376 rfl ?_
                exact g_zret hx hR 377 (Or.inl rfl) dL_isArchive_377 ⟨by rw [← Option.some.inj hr] <;> rfl, by rw [← Option.some.inj hr] <;> rfl⟩
              · have hr := (if_pos hc_1060).symm.trans hr
                refine g_aload_n hx 316 (i := 0) 1 dL_isArchive_316 rfl rfl ?_
                refine g_iload hx 317 (i := 10) 10 dL_isArchive_317 rfl ?_
                obtain ⟨q_1061, eq_1061, hr⟩ := bind_e hr
                refine g_callVr hx (c_SA_refilePlace l g hC σ B q_1059.2 q_1030 eq_1061) lk_L_65 ar_SA_refilePlace (pW σ B ae q_1059.2 0 (by decide)) (T := TX10) (N := 11) rfl (As := [.int q_1030]) (rest := []) rfl (Nat.le_of_ble_eq_true rfl) ⟨Nat.le_of_ble_eq_true rfl, Nat.le_of_ble_eq_true rfl⟩ ⟨rfl, rfl⟩ ⟨Nat.zero_le _, Nat.zero_le _⟩ dL_isArchive_319 ?_
                refine g_iload hx 322 (i := 8) 8 dL_isArchive_322 rfl ?_
                refine g_icmp_ne hx 324 376 dL_isArchive_324 (by decide) (fun hc_1062 => ?_) (fun hc_1062 => ?_)
                · have hr := (if_neg hc_1062).symm.trans hr
                  refine g_iconst hx 376 (0) dL_isArchive_376 rfl ?_
                  exact g_zret hx hR 377 (Or.inl rfl) dL_isArchive_377 ⟨by rw [← Option.some.inj hr] <;> rfl, by rw [← Option.some.inj hr] <;> rfl⟩
                · have hr := (if_pos hc_1062).symm.trans hr
                  refine g_ls [1, 2, 3, 4, 5, 6, 7, 0, 8, 9, 10, 11, 12] [(0, .ref B), (1, .int v1_862), (2, .int v2_863), (3, .int v3_864), (4, .int v4_865), (5, .int v5_866), (6, .int v6_1038), (7, .int v7_1042), (8, .int v8_869), (9, .int v9_1029), (10, .int q_1030), (11, .int v11_1032), (12, .int v12_1034)] rfl ?_
                  exact J_1045 q_1061.2 hr
        obtain ⟨c_1063, ec_1063, hr⟩ := lt'_e hr
        have J_1064 : c_1063 = some r → G X (putW σ B ae q_1033.2) 0 0 285 [(0, .ref B), (1, .int v1_862), (2, .int v2_863), (3, .int v3_864), (4, .int v4_865), (5, .int v5_866), (6, .int v6_1038), (8, .int v8_869), (9, .int v9_1029), (10, .int q_1030), (11, .int v11_1032), (12, .int v12_1034)] [.int v7_868] := by
          intro hr
          have hr := ec_1063.symm.trans hr
          refine g_iconst hx 285 (0) dL_isArchive_285 rfl ?_
          refine g_ls [0, 1, 2, 3, 4, 5, 6, 7, 8, 9, 10, 11] [(0, .ref B), (1, .int v1_862), (2, .int v2_863), (3, .int v3_864), (4, .int v4_865), (5, .int v5_866), (6, .int v6_1038), (8, .int v8_869), (9, .int v9_1029), (10, .int q_1030), (11, .int v11_1032), (12, .int v12_1034)] rfl ?_
          exact J_1041 0 hr
        refine g_if_le hx 260 285 dL_isArchive_260 (by decide) (fun hc_1065 => ?_) (fun hc_1065 => ?_)
        · have hr := (if_pos hc_1065).symm.trans hr
          refine g_ls [1, 2, 3, 4, 5, 6, 0, 8, 9, 10, 11, 12] [(0, .ref B), (1, .int v1_862), (2, .int v2_863), (3, .int v3_864), (4, .int v4_865), (5, .int v5_866), (6, .int v6_1038), (8, .int v8_869), (9, .int v9_1029), (10, .int q_1030), (11, .int v11_1032), (12, .int v12_1034)] rfl ?_
          exact J_1064 hr
        · have hr := (if_neg hc_1065).symm.trans hr
          refine g_aload_n hx 263 (i := 0) 1 dL_isArchive_263 rfl rfl ?_
          refine g_aload_n hx 264 (i := 0) 1 dL_isArchive_264 rfl rfl ?_
          refine g_iload hx 265 (i := 8) 8 dL_isArchive_265 rfl ?_
          refine g_iconst hx 267 (1) dL_isArchive_267 rfl ?_
          refine g_isub hx 268 dL_isArchive_268 ?_
          refine g_callVr hx (c_SA_at l g hC σ B q_1033.2 (v8_869 - 1) rfl) lk_L_50 ar_SA_at (pW σ B ae q_1033.2 0 (by decide)) (T := TX10) (N := 11) rfl (As := [.int (v8_869 - 1)]) (rest := [.ref B, .int v7_868]) rfl (Nat.le_of_ble_eq_true rfl) ⟨Nat.le_of_ble_eq_true rfl, Nat.le_of_ble_eq_true rfl⟩ ⟨rfl, rfl⟩ ⟨Nat.zero_le _, Nat.zero_le _⟩ dL_isArchive_269 ?_
          refine g_iconst hx 272 (0) dL_isArchive_272 rfl ?_
          obtain ⟨q_1066, eq_1066, hr⟩ := bind_e hr
          refine g_callVr hx (c_SA_folder l g hC σ B q_1033.2 (SA_at q_1033.2 (v8_869 - 1)) 0 eq_1066) lk_L_37 ar_SA_folder (pW σ B ae q_1033.2 0 (by decide)) (T := TX10) (N := 11) rfl (As := [.int (SA_at q_1033.2 (v8_869 - 1)), .int 0]) (rest := [.int v7_868]) rfl (Nat.le_of_ble_eq_true rfl) ⟨Nat.le_of_ble_eq_true rfl, Nat.le_of_ble_eq_true rfl⟩ ⟨rfl, rfl⟩ ⟨Nat.zero_le _, Nat.zero_le _⟩ dL_isArchive_273 ?_
          refine g_iload hx 276 (i := 10) 10 dL_isArchive_276 rfl ?_
          refine g_icmp_le hx 278 285 dL_isArchive_278 (by decide) (fun hc_1067 => ?_) (fun hc_1067 => ?_)
          · have hr := (if_pos hc_1067).symm.trans hr
            refine g_ls [1, 2, 3, 4, 5, 6, 0, 8, 9, 10, 11, 12] [(0, .ref B), (1, .int v1_862), (2, .int v2_863), (3, .int v3_864), (4, .int v4_865), (5, .int v5_866), (6, .int v6_1038), (8, .int v8_869), (9, .int v9_1029), (10, .int q_1030), (11, .int v11_1032), (12, .int v12_1034)] rfl ?_
            exact J_1064 hr
          · have hr := (if_neg hc_1067).symm.trans hr
            refine g_iconst hx 281 (1) dL_isArchive_281 rfl ?_
            refine g_goto hx 282 286 dL_isArchive_282 (by decide) ?_
            refine g_ls [1, 2, 3, 4, 5, 6, 0, 8, 9, 10, 11, 12] [(0, .ref B), (1, .int v1_862), (2, .int v2_863), (3, .int v3_864), (4, .int v4_865), (5, .int v5_866), (6, .int v6_1038), (8, .int v8_869), (9, .int v9_1029), (10, .int q_1030), (11, .int v11_1032), (12, .int v12_1034)] rfl ?_
            exact J_1041 1 hr
      refine g_if_ge hx 245 252 dL_isArchive_245 (by decide) (fun hc_1068 => ?_) (fun hc_1068 => ?_)
      · have hr := (if_pos hc_1068).symm.trans hr
        refine g_iconst hx 252 (0) dL_isArchive_252 rfl ?_
        refine g_ls [4, 5, 6, 7, 8, 9, 11, 12, 3, 2, 1, 0] [(0, .ref B), (1, .int v1_862), (2, .int v2_863), (3, .int v3_864), (4, .int v4_865), (5, .int v5_866), (7, .int v7_868), (8, .int v8_869), (9, .int v9_1029), (10, .int q_1030), (11, .int v11_1032), (12, .int v12_1034)] rfl ?_
        exact J_1037 0 hr
      · have hr := (if_neg hc_1068).symm.trans hr
        refine g_iconst hx 248 (1) dL_isArchive_248 rfl ?_
        refine g_goto hx 249 253 dL_isArchive_249 (by decide) ?_
        refine g_ls [4, 5, 6, 7, 8, 9, 11, 12, 3, 2, 1, 0] [(0, .ref B), (1, .int v1_862), (2, .int v2_863), (3, .int v3_864), (4, .int v4_865), (5, .int v5_866), (7, .int v7_868), (8, .int v8_869), (9, .int v9_1029), (10, .int q_1030), (11, .int v11_1032), (12, .int v12_1034)] rfl ?_
        exact J_1037 1 hr
set_option maxRecDepth 100000 in
set_option maxHeartbeats 4000000 in
theorem w_Lw_isArchive_L20 {ad ae : Nat → Nat} {X : Cx} {l : Launch} {g : Gl} (hx : Ok X l g RL cL_isArchive 15 md_Lw_isArchive.rm) (hC : KAll g ad ae) {σ : Hp} {B : Nat} {r : Int32 × WM} (hR : Ret X (rs (some (.int r.1)) (putW σ B ae r.2)) 0 0 (some .boolean)) : ∀ (n : Nat) (M : WM) (v1_854 v2_855 v3_856 v4_857 v5_858 v6_859 : Int32), Lw_isArchive_L20 n M v1_854 v2_855 v3_856 v4_857 v5_858 v6_859 = some r → G X (putW σ B ae M) 0 0 20 [(0, .ref B), (1, .int v1_854), (2, .int v2_855), (3, .int v3_856), (4, .int v4_857), (5, .int v5_858), (6, .int v6_859)] [] := by
  intro n
  induction n with
  | zero =>
    intro M v1_854 v2_855 v3_856 v4_857 v5_858 v6_859 hr
    rw [Lw_isArchive_L20] at hr
    cases hr
  | succ n ih =>
    intro M v1_854 v2_855 v3_856 v4_857 v5_858 v6_859 hr
    rw [Lw_isArchive_L20] at hr
    refine g_iload hx 20 (i := 6) 6 dL_isArchive_20 rfl ?_
    refine g_aload_n hx 22 (i := 0) 0 dL_isArchive_22 rfl rfl ?_
    refine g_iconst hx 23 (5) dL_isArchive_23 rfl ?_
    obtain ⟨q_860, eq_860, hr⟩ := bind_e hr
    refine g_callVr hx (c_SA_size l g hC σ B M 5 eq_860) lk_L_30 ar_SA_size (pW σ B ae M 0 (by decide)) (T := TX10) (N := 11) rfl (As := [.int 5]) (rest := [.int v6_859]) rfl (Nat.le_of_ble_eq_true rfl) ⟨Nat.le_of_ble_eq_true rfl, Nat.le_of_ble_eq_true rfl⟩ ⟨rfl, rfl⟩ ⟨Nat.zero_le _, Nat.zero_le _⟩ dL_isArchive_24 ?_
    refine g_icmp_ge hx 27 193 dL_isArchive_27 (by decide) (fun hc_861 => ?_) (fun hc_861 => ?_)
    · have hr := (if_pos hc_861).symm.trans hr
      refine g_iconst hx 193 (0) dL_isArchive_193 rfl ?_
      refine g_istore hx 194 (i := 6) [(6, .int 0), (0, .ref B), (1, .int v1_854), (2, .int v2_855), (3, .int v3_856), (4, .int v4_857), (5, .int v5_858)] dL_isArchive_194 (by decide) rfl ?_
      refine g_iconst hx 196 (0) dL_isArchive_196 rfl ?_
      refine g_istore hx 197 (i := 7) [(7, .int 0), (6, .int 0), (0, .ref B), (1, .int v1_854), (2, .int v2_855), (3, .int v3_856), (4, .int v4_857), (5, .int v5_858)] dL_isArchive_197 (by decide) rfl ?_
      refine g_iconst hx 199 (0) dL_isArchive_199 rfl ?_
      refine g_istore hx 200 (i := 8) [(8, .int 0), (7, .int 0), (6, .int 0), (0, .ref B), (1, .int v1_854), (2, .int v2_855), (3, .int v3_856), (4, .int v4_857), (5, .int v5_858)] dL_isArchive_200 (by decide) rfl ?_
      refine g_ls [3, 4, 5, 6, 7, 8, 2, 1, 0] [(0, .ref B), (1, .int v1_854), (2, .int v2_855), (3, .int v3_856), (4, .int v4_857), (5, .int v5_858), (6, .int 0), (7, .int 0), (8, .int 0)] rfl ?_
      exact w_Lw_isArchive_L202 hx hC hR FU M v1_854 v2_855 v3_856 v4_857 v5_858 0 0 0 hr
    · have hr := (if_neg hc_861).symm.trans hr
      refine g_aload_n hx 30 (i := 0) 0 dL_isArchive_30 rfl rfl ?_
      refine g_iload hx 31 (i := 6) 6 dL_isArchive_31 rfl ?_
      refine g_iconst hx 33 (2) dL_isArchive_33 rfl ?_
      obtain ⟨q_1069, eq_1069, hr⟩ := bind_e hr
      refine g_callVr hx (c_SA_folder l g hC σ B M v6_859 2 eq_1069) lk_L_37 ar_SA_folder (pW σ B ae M 0 (by decide)) (T := TX10) (N := 11) rfl (As := [.int v6_859, .int 2]) (rest := []) rfl (Nat.le_of_ble_eq_true rfl) ⟨Nat.le_of_ble_eq_true rfl, Nat.le_of_ble_eq_true rfl⟩ ⟨rfl, rfl⟩ ⟨Nat.zero_le _, Nat.zero_le _⟩ dL_isArchive_34 ?_
      refine g_istore hx 37 (i := 7) [(7, .int q_1069), (0, .ref B), (1, .int v1_854), (2, .int v2_855), (3, .int v3_856), (4, .int v4_857), (5, .int v5_858), (6, .int v6_859)] dL_isArchive_37 (by decide) rfl ?_
      refine g_iload_n hx 39 (i := 2) 3 dL_isArchive_39 rfl rfl ?_
      refine g_iload hx 40 (i := 7) 0 dL_isArchive_40 rfl ?_
      refine g_iconst hx 42 (1) dL_isArchive_42 rfl ?_
      obtain ⟨c_1071, ec_1071, hr⟩ := lt'_e hr
      have J_1072 : ∀ (t_1070 : Int32), c_1071 t_1070 = some r → G X (putW σ B ae M) 0 0 51 [(0, .ref B), (1, .int v1_854), (3, .int v3_856), (4, .int v4_857), (5, .int v5_858), (6, .int v6_859), (7, .int q_1069)] [.int t_1070, .int v2_855] := by
        intro t_1070 hr
        have hr := (congrFun ec_1071 t_1070).symm.trans hr
        refine g_iadd hx 51 dL_isArchive_51 ?_
        obtain ⟨v2_1073, ev2_1073, hr⟩ := lt'_e hr
        refine g_nmi ev2_1073 ?_
        refine g_istore_n hx 52 (i := 2) [(2, .int v2_1073), (0, .ref B), (1, .int v1_854), (3, .int v3_856), (4, .int v4_857), (5, .int v5_858), (6, .int v6_859), (7, .int q_1069)] dL_isArchive_52 rfl (by decide) rfl ?_
        refine g_iload_n hx 53 (i := 3) 3 dL_isArchive_53 rfl rfl ?_
        refine g_iload hx 54 (i := 7) 7 dL_isArchive_54 rfl ?_
        refine g_iconst hx 56 (2) dL_isArchive_56 rfl ?_
        obtain ⟨c_1075, ec_1075, hr⟩ := lt'_e hr
        have J_1076 : ∀ (t_1074 : Int32), c_1075 t_1074 = some r → G X (putW σ B ae M) 0 0 65 [(0, .ref B), (1, .int v1_854), (2, .int v2_1073), (4, .int v4_857), (5, .int v5_858), (6, .int v6_859), (7, .int q_1069)] [.int t_1074, .int v3_856] := by
          intro t_1074 hr
          have hr := (congrFun ec_1075 t_1074).symm.trans hr
          refine g_iadd hx 65 dL_isArchive_65 ?_
          obtain ⟨v3_1077, ev3_1077, hr⟩ := lt'_e hr
          refine g_nmi ev3_1077 ?_
          refine g_istore_n hx 66 (i := 3) [(3, .int v3_1077), (0, .ref B), (1, .int v1_854), (2, .int v2_1073), (4, .int v4_857), (5, .int v5_858), (6, .int v6_859), (7, .int q_1069)] dL_isArchive_66 rfl (by decide) rfl ?_
          refine g_iload hx 67 (i := 4) 4 dL_isArchive_67 rfl ?_
          refine g_aload_n hx 69 (i := 0) 1 dL_isArchive_69 rfl rfl ?_
          refine g_iload hx 70 (i := 6) 6 dL_isArchive_70 rfl ?_
          refine g_iconst hx 72 (5) dL_isArchive_72 rfl ?_
          obtain ⟨q_1078, eq_1078, hr⟩ := bind_e hr
          refine g_callVr hx (c_SA_folder l g hC σ B M v6_859 5 eq_1078) lk_L_37 ar_SA_folder (pW σ B ae M 0 (by decide)) (T := TX10) (N := 11) rfl (As := [.int v6_859, .int 5]) (rest := [.int v4_857]) rfl (Nat.le_of_ble_eq_true rfl) ⟨Nat.le_of_ble_eq_true rfl, Nat.le_of_ble_eq_true rfl⟩ ⟨rfl, rfl⟩ ⟨Nat.zero_le _, Nat.zero_le _⟩ dL_isArchive_73 ?_
          refine g_iadd hx 76 dL_isArchive_76 ?_
          obtain ⟨v4_1079, ev4_1079, hr⟩ := lt'_e hr
          refine g_nmi ev4_1079 ?_
          refine g_istore hx 77 (i := 4) [(4, .int v4_1079), (3, .int v3_1077), (0, .ref B), (1, .int v1_854), (2, .int v2_1073), (5, .int v5_858), (6, .int v6_859), (7, .int q_1069)] dL_isArchive_77 (by decide) rfl ?_
          refine g_iload hx 79 (i := 5) 5 dL_isArchive_79 rfl ?_
          refine g_aload_n hx 81 (i := 0) 2 dL_isArchive_81 rfl rfl ?_
          refine g_iload hx 82 (i := 6) 6 dL_isArchive_82 rfl ?_
          refine g_iconst hx 84 (4) dL_isArchive_84 rfl ?_
          obtain ⟨q_1080, eq_1080, hr⟩ := bind_e hr
          refine g_callVr hx (c_SA_folder l g hC σ B M v6_859 4 eq_1080) lk_L_37 ar_SA_folder (pW σ B ae M 0 (by decide)) (T := TX10) (N := 11) rfl (As := [.int v6_859, .int 4]) (rest := [.int v5_858]) rfl (Nat.le_of_ble_eq_true rfl) ⟨Nat.le_of_ble_eq_true rfl, Nat.le_of_ble_eq_true rfl⟩ ⟨rfl, rfl⟩ ⟨Nat.zero_le _, Nat.zero_le _⟩ dL_isArchive_85 ?_
          refine g_iadd hx 88 dL_isArchive_88 ?_
          obtain ⟨v5_1081, ev5_1081, hr⟩ := lt'_e hr
          refine g_nmi ev5_1081 ?_
          refine g_istore hx 89 (i := 5) [(5, .int v5_1081), (4, .int v4_1079), (3, .int v3_1077), (0, .ref B), (1, .int v1_854), (2, .int v2_1073), (6, .int v6_859), (7, .int q_1069)] dL_isArchive_89 (by decide) rfl ?_
          refine g_aload_n hx 91 (i := 0) 3 dL_isArchive_91 rfl rfl ?_
          refine g_aload_n hx 92 (i := 0) 3 dL_isArchive_92 rfl rfl ?_
          refine g_iload hx 93 (i := 6) 6 dL_isArchive_93 rfl ?_
          refine g_iconst hx 95 (0) dL_isArchive_95 rfl ?_
          obtain ⟨q_1082, eq_1082, hr⟩ := bind_e hr
          refine g_callVr hx (c_SA_folder l g hC σ B M v6_859 0 eq_1082) lk_L_37 ar_SA_folder (pW σ B ae M 0 (by decide)) (T := TX10) (N := 11) rfl (As := [.int v6_859, .int 0]) (rest := [.ref B]) rfl (Nat.le_of_ble_eq_true rfl) ⟨Nat.le_of_ble_eq_true rfl, Nat.le_of_ble_eq_true rfl⟩ ⟨rfl, rfl⟩ ⟨Nat.zero_le _, Nat.zero_le _⟩ dL_isArchive_96 ?_
          refine g_callVr hx (c_SA_marked l g hC σ B M q_1082 rfl) lk_L_47 ar_SA_marked (pW σ B ae M 0 (by decide)) (T := TX10) (N := 11) rfl (As := [.int q_1082]) (rest := []) rfl (Nat.le_of_ble_eq_true rfl) ⟨Nat.le_of_ble_eq_true rfl, Nat.le_of_ble_eq_true rfl⟩ ⟨rfl, rfl⟩ ⟨Nat.zero_le _, Nat.zero_le _⟩ dL_isArchive_99 ?_
          refine g_iload hx 102 (i := 6) 6 dL_isArchive_102 rfl ?_
          refine g_icmp_ne hx 104 185 dL_isArchive_104 (by decide) (fun hc_1083 => ?_) (fun hc_1083 => ?_)
          · have hr := (if_neg hc_1083).symm.trans hr
            refine g_iconst hx 185 (0) dL_isArchive_185 rfl ?_
            exact g_zret hx hR 186 (Or.inl rfl) dL_isArchive_186 ⟨by rw [← Option.some.inj hr] <;> rfl, by rw [← Option.some.inj hr] <;> rfl⟩
          · have hr := (if_pos hc_1083).symm.trans hr
            refine g_iload hx 107 (i := 7) 7 dL_isArchive_107 rfl ?_
            obtain ⟨c_1084, ec_1084, hr⟩ := lt'_e hr
            have J_1085 : c_1084 = some r → G X (putW σ B ae M) 0 0 128 [(0, .ref B), (1, .int v1_854), (2, .int v2_1073), (3, .int v3_1077), (4, .int v4_1079), (5, .int v5_1081), (6, .int v6_859)] [] := by
              intro hr
              have hr := ec_1084.symm.trans hr
              refine g_aload_n hx 128 (i := 0) 0 dL_isArchive_128 rfl rfl ?_
              refine g_iload hx 129 (i := 6) 6 dL_isArchive_129 rfl ?_
              refine g_bipush hx 131 (6) dL_isArchive_131 rfl ?_
              obtain ⟨q_1086, eq_1086, hr⟩ := bind_e hr
              refine g_callVr hx (c_SA_folder l g hC σ B M v6_859 6 eq_1086) lk_L_37 ar_SA_folder (pW σ B ae M 0 (by decide)) (T := TX10) (N := 11) rfl (As := [.int v6_859, .int 6]) (rest := []) rfl (Nat.le_of_ble_eq_true rfl) ⟨Nat.le_of_ble_eq_true rfl, Nat.le_of_ble_eq_true rfl⟩ ⟨rfl, rfl⟩ ⟨Nat.zero_le _, Nat.zero_le _⟩ dL_isArchive_133 ?_
              refine g_iconst hx 136 (1) dL_isArchive_136 rfl ?_
              obtain ⟨c_1088, ec_1088, hr⟩ := lt'_e hr
              have J_1089 : ∀ (t_1087 : Int32), c_1088 t_1087 = some r → G X (putW σ B ae M) 0 0 145 [(0, .ref B), (1, .int v1_854), (2, .int v2_1073), (3, .int v3_1077), (4, .int v4_1079), (5, .int v5_1081), (6, .int v6_859)] [.int t_1087] := by
                intro t_1087 hr
                have hr := (congrFun ec_1088 t_1087).symm.trans hr
                refine g_aload_n hx 145 (i := 0) 0 dL_isArchive_145 rfl rfl ?_
                refine g_iconst hx 146 (0) dL_isArchive_146 rfl ?_
                obtain ⟨q_1090, eq_1090, hr⟩ := bind_e hr
                refine g_callVr hx (c_SA_size l g hC σ B M 0 eq_1090) lk_L_30 ar_SA_size (pW σ B ae M 0 (by decide)) (T := TX10) (N := 11) rfl (As := [.int 0]) (rest := [.int t_1087]) rfl (Nat.le_of_ble_eq_true rfl) ⟨Nat.le_of_ble_eq_true rfl, Nat.le_of_ble_eq_true rfl⟩ ⟨rfl, rfl⟩ ⟨Nat.zero_le _, Nat.zero_le _⟩ dL_isArchive_147 ?_
                refine g_aload_n hx 150 (i := 0) 0 dL_isArchive_150 rfl rfl ?_
                refine g_iload hx 151 (i := 6) 6 dL_isArchive_151 rfl ?_
                refine g_iconst hx 153 (1) dL_isArchive_153 rfl ?_
                obtain ⟨q_1091, eq_1091, hr⟩ := bind_e hr
                refine g_callVr hx (c_SA_folder l g hC σ B M v6_859 1 eq_1091) lk_L_37 ar_SA_folder (pW σ B ae M 0 (by decide)) (T := TX10) (N := 11) rfl (As := [.int v6_859, .int 1]) (rest := [.int q_1090, .int t_1087]) rfl (Nat.le_of_ble_eq_true rfl) ⟨Nat.le_of_ble_eq_true rfl, Nat.le_of_ble_eq_true rfl⟩ ⟨rfl, rfl⟩ ⟨Nat.zero_le _, Nat.zero_le _⟩ dL_isArchive_154 ?_
                obtain ⟨c_1093, ec_1093, hr⟩ := lt'_e hr
                have J_1094 : ∀ (t_1092 : Int32), c_1093 t_1092 = some r → G X (putW σ B ae M) 0 0 165 [(0, .ref B), (1, .int v1_854), (2, .int v2_1073), (3, .int v3_1077), (4, .int v4_1079), (5, .int v5_1081), (6, .int v6_859)] [.int t_1092, .int t_1087] := by
                  intro t_1092 hr
                  have hr := (congrFun ec_1093 t_1092).symm.trans hr
                  refine g_icmp_ne hx 165 185 dL_isArchive_165 (by decide) (fun hc_1095 => ?_) (fun hc_1095 => ?_)
                  · have hr := (if_neg hc_1095).symm.trans hr
                    refine g_iconst hx 185 (0) dL_isArchive_185 rfl ?_
                    exact g_zret hx hR 186 (Or.inl rfl) dL_isArchive_186 ⟨by rw [← Option.some.inj hr] <;> rfl, by rw [← Option.some.inj hr] <;> rfl⟩
                  · have hr := (if_pos hc_1095).symm.trans hr
                    refine g_aload_n hx 168 (i := 0) 0 dL_isArchive_168 rfl rfl ?_
                    refine g_iload hx 169 (i := 6) 6 dL_isArchive_169 rfl ?_
                    refine g_iconst hx 171 (4) dL_isArchive_171 rfl ?_
                    obtain ⟨q_1096, eq_1096, hr⟩ := bind_e hr
                    refine g_callVr hx (c_SA_folder l g hC σ B M v6_859 4 eq_1096) lk_L_37 ar_SA_folder (pW σ B ae M 0 (by decide)) (T := TX10) (N := 11) rfl (As := [.int v6_859, .int 4]) (rest := []) rfl (Nat.le_of_ble_eq_true rfl) ⟨Nat.le_of_ble_eq_true rfl, Nat.le_of_ble_eq_true rfl⟩ ⟨rfl, rfl⟩ ⟨Nat.zero_le _, Nat.zero_le _⟩ dL_isArchive_172 ?_
                    obtain ⟨c_1097, ec_1097, hr⟩ := lt'_e hr
                    have J_1098 : c_1097 = some r → G X (putW σ B ae M) 0 0 187 [(0, .ref B), (1, .int v1_854), (2, .int v2_1073), (3, .int v3_1077), (4, .int v4_1079), (5, .int v5_1081), (6, .int v6_859)] [] := by
                      intro hr
                      have hr := ec_1097.symm.trans hr
                      refine g_iinc hx 187 (i := 6) 6 (v6_859 + 1) [(6, .int (v6_859 + 1)), (0, .ref B), (1, .int v1_854), (2, .int v2_1073), (3, .int v3_1077), (4, .int v4_1079), (5, .int v5_1081)] dL_isArchive_187 rfl rfl (by decide) rfl ?_
                      refine g_goto hx 190 20 dL_isArchive_190 (by decide) ?_
                      refine g_ls [1, 2, 3, 4, 5, 6, 0] [(0, .ref B), (1, .int v1_854), (2, .int v2_1073), (3, .int v3_1077), (4, .int v4_1079), (5, .int v5_1081), (6, .int (v6_859 + 1))] rfl ?_
                      exact ih M v1_854 v2_1073 v3_1077 v4_1079 v5_1081 (v6_859 + 1) hr
                    refine g_if_le hx 175 187 dL_isArchive_175 (by decide) (fun hc_1099 => ?_) (fun hc_1099 => ?_)
                    · have hr := (if_pos hc_1099).symm.trans hr
                      refine g_ls [0, 1, 2, 3, 4, 5, 6] [(0, .ref B), (1, .int v1_854), (2, .int v2_1073), (3, .int v3_1077), (4, .int v4_1079), (5, .int v5_1081), (6, .int v6_859)] rfl ?_
                      exact J_1098 hr
                    · have hr := (if_neg hc_1099).symm.trans hr
                      refine g_aload_n hx 178 (i := 0) 0 dL_isArchive_178 rfl rfl ?_
                      obtain ⟨q_1100, eq_1100, hr⟩ := bind_e hr
                      refine g_callVr hx (c_SA_mostAsked l g hC σ B M eq_1100) lk_L_53 ar_SA_mostAsked (pW σ B ae M 0 (by decide)) (T := TX10) (N := 11) rfl (As := []) (rest := []) rfl (Nat.le_of_ble_eq_true rfl) ⟨Nat.le_of_ble_eq_true rfl, Nat.le_of_ble_eq_true rfl⟩ ⟨rfl, rfl⟩ ⟨Nat.zero_le _, Nat.zero_le _⟩ dL_isArchive_179 ?_
                      refine g_if_ge hx 182 187 dL_isArchive_182 (by decide) (fun hc_1101 => ?_) (fun hc_1101 => ?_)
                      · have hr := (if_pos hc_1101).symm.trans hr
                        refine g_ls [0, 1, 2, 3, 4, 5, 6] [(0, .ref B), (1, .int v1_854), (2, .int v2_1073), (3, .int v3_1077), (4, .int v4_1079), (5, .int v5_1081), (6, .int v6_859)] rfl ?_
                        exact J_1098 hr
                      · have hr := (if_neg hc_1101).symm.trans hr
                        refine g_iconst hx 185 (0) dL_isArchive_185 rfl ?_
                        exact g_zret hx hR 186 (Or.inl rfl) dL_isArchive_186 ⟨by rw [← Option.some.inj hr] <;> rfl, by rw [← Option.some.inj hr] <;> rfl⟩
                refine g_icmp_ge hx 157 164 dL_isArchive_157 (by decide) (fun hc_1102 => ?_) (fun hc_1102 => ?_)
                · have hr := (if_pos hc_1102).symm.trans hr
                  refine g_iconst hx 164 (0) dL_isArchive_164 rfl ?_
                  refine g_ls [0, 1, 2, 3, 4, 5, 6] [(0, .ref B), (1, .int v1_854), (2, .int v2_1073), (3, .int v3_1077), (4, .int v4_1079), (5, .int v5_1081), (6, .int v6_859)] rfl ?_
                  exact J_1094 0 hr
                · have hr := (if_neg hc_1102).symm.trans hr
                  refine g_iconst hx 160 (1) dL_isArchive_160 rfl ?_
                  refine g_goto hx 161 165 dL_isArchive_161 (by decide) ?_
                  refine g_ls [0, 1, 2, 3, 4, 5, 6] [(0, .ref B), (1, .int v1_854), (2, .int v2_1073), (3, .int v3_1077), (4, .int v4_1079), (5, .int v5_1081), (6, .int v6_859)] rfl ?_
                  exact J_1094 1 hr
              refine g_icmp_ne hx 137 144 dL_isArchive_137 (by decide) (fun hc_1103 => ?_) (fun hc_1103 => ?_)
              · have hr := (if_neg hc_1103).symm.trans hr
                refine g_iconst hx 144 (0) dL_isArchive_144 rfl ?_
                refine g_ls [0, 1, 2, 3, 4, 5, 6] [(0, .ref B), (1, .int v1_854), (2, .int v2_1073), (3, .int v3_1077), (4, .int v4_1079), (5, .int v5_1081), (6, .int v6_859)] rfl ?_
                exact J_1089 0 hr
              · have hr := (if_pos hc_1103).symm.trans hr
                refine g_iconst hx 140 (1) dL_isArchive_140 rfl ?_
                refine g_goto hx 141 145 dL_isArchive_141 (by decide) ?_
                refine g_ls [0, 1, 2, 3, 4, 5, 6] [(0, .ref B), (1, .int v1_854), (2, .int v2_1073), (3, .int v3_1077), (4, .int v4_1079), (5, .int v5_1081), (6, .int v6_859)] rfl ?_
                exact J_1089 1 hr
            refine g_if_ne hx 109 128 dL_isArchive_109 (by decide) (fun hc_1104 => ?_) (fun hc_1104 => ?_)
            · have hr := (if_neg hc_1104).symm.trans hr
              refine g_ls [3, 4, 5, 2, 1, 0, 6] [(0, .ref B), (1, .int v1_854), (2, .int v2_1073), (3, .int v3_1077), (4, .int v4_1079), (5, .int v5_1081), (6, .int v6_859)] rfl ?_
              exact J_1085 hr
            · have hr := (if_pos hc_1104).symm.trans hr
              refine g_aload_n hx 112 (i := 0) 3 dL_isArchive_112 rfl rfl ?_
              refine g_aload_n hx 113 (i := 0) 3 dL_isArchive_113 rfl rfl ?_
              refine g_iload hx 114 (i := 6) 6 dL_isArchive_114 rfl ?_
              refine g_iconst hx 116 (3) dL_isArchive_116 rfl ?_
              obtain ⟨q_1105, eq_1105, hr⟩ := bind_e hr
              refine g_callVr hx (c_SA_folder l g hC σ B M v6_859 3 eq_1105) lk_L_37 ar_SA_folder (pW σ B ae M 0 (by decide)) (T := TX10) (N := 11) rfl (As := [.int v6_859, .int 3]) (rest := [.ref B]) rfl (Nat.le_of_ble_eq_true rfl) ⟨Nat.le_of_ble_eq_true rfl, Nat.le_of_ble_eq_true rfl⟩ ⟨rfl, rfl⟩ ⟨Nat.zero_le _, Nat.zero_le _⟩ dL_isArchive_117 ?_
              refine g_callVr hx (c_SA_at l g hC σ B M q_1105 rfl) lk_L_50 ar_SA_at (pW σ B ae M 0 (by decide)) (T := TX10) (N := 11) rfl (As := [.int q_1105]) (rest := []) rfl (Nat.le_of_ble_eq_true rfl) ⟨Nat.le_of_ble_eq_true rfl, Nat.le_of_ble_eq_true rfl⟩ ⟨rfl, rfl⟩ ⟨Nat.zero_le _, Nat.zero_le _⟩ dL_isArchive_120 ?_
              refine g_iload hx 123 (i := 6) 6 dL_isArchive_123 rfl ?_
              refine g_icmp_ne hx 125 185 dL_isArchive_125 (by decide) (fun hc_1106 => ?_) (fun hc_1106 => ?_)
              · have hr := (if_neg hc_1106).symm.trans hr
                refine g_iconst hx 185 (0) dL_isArchive_185 rfl ?_
                exact g_zret hx hR 186 (Or.inl rfl) dL_isArchive_186 ⟨by rw [← Option.some.inj hr] <;> rfl, by rw [← Option.some.inj hr] <;> rfl⟩
              · have hr := (if_pos hc_1106).symm.trans hr
                refine g_ls [3, 4, 5, 2, 1, 0, 6] [(0, .ref B), (1, .int v1_854), (2, .int v2_1073), (3, .int v3_1077), (4, .int v4_1079), (5, .int v5_1081), (6, .int v6_859)] rfl ?_
                exact J_1085 hr
        refine g_icmp_ne hx 57 64 dL_isArchive_57 (by decide) (fun hc_1107 => ?_) (fun hc_1107 => ?_)
        · have hr := (if_neg hc_1107).symm.trans hr
          refine g_iconst hx 64 (0) dL_isArchive_64 rfl ?_
          refine g_ls [1, 2, 0, 4, 5, 6, 7] [(0, .ref B), (1, .int v1_854), (2, .int v2_1073), (4, .int v4_857), (5, .int v5_858), (6, .int v6_859), (7, .int q_1069)] rfl ?_
          exact J_1076 0 hr
        · have hr := (if_pos hc_1107).symm.trans hr
          refine g_iconst hx 60 (1) dL_isArchive_60 rfl ?_
          refine g_goto hx 61 65 dL_isArchive_61 (by decide) ?_
          refine g_ls [1, 2, 0, 4, 5, 6, 7] [(0, .ref B), (1, .int v1_854), (2, .int v2_1073), (4, .int v4_857), (5, .int v5_858), (6, .int v6_859), (7, .int q_1069)] rfl ?_
          exact J_1076 1 hr
      refine g_icmp_ne hx 43 50 dL_isArchive_43 (by decide) (fun hc_1108 => ?_) (fun hc_1108 => ?_)
      · have hr := (if_neg hc_1108).symm.trans hr
        refine g_iconst hx 50 (0) dL_isArchive_50 rfl ?_
        refine g_ls [1, 2, 4, 5, 6, 7, 0] [(0, .ref B), (1, .int v1_854), (3, .int v3_856), (4, .int v4_857), (5, .int v5_858), (6, .int v6_859), (7, .int q_1069)] rfl ?_
        exact J_1072 0 hr
      · have hr := (if_pos hc_1108).symm.trans hr
        refine g_iconst hx 46 (1) dL_isArchive_46 rfl ?_
        refine g_goto hx 47 51 dL_isArchive_47 (by decide) ?_
        refine g_ls [1, 2, 4, 5, 6, 7, 0] [(0, .ref B), (1, .int v1_854), (3, .int v3_856), (4, .int v4_857), (5, .int v5_858), (6, .int v6_859), (7, .int q_1069)] rfl ?_
        exact J_1072 1 hr
set_option maxRecDepth 100000 in
set_option maxHeartbeats 4000000 in
theorem c_Lw_isArchive {ad ae : Nat → Nat} (l : Launch) (g : Gl) (hC : KAll g ad ae) (σ : Hp) (B : Nat) (M : WM) {r : Int32 × WM} (hr : Lw_isArchive M = some r) : MG l g md_Lw_isArchive [.ref B] (putW σ B ae M) (rs (some (.int r.1)) (putW σ B ae r.2)) := by
  refine MG.intro (by decide +kernel) (Nat.le_of_ble_eq_true rfl) (fun X hx hR _ => ?_)
  unfold Lw_isArchive at hr
  refine g_ls [0] [(0, .ref B)] rfl ?_
  refine g_aload_n hx 0 (i := 0) 0 dL_isArchive_0 rfl rfl ?_
  refine g_bipush hx 1 (6) dL_isArchive_1 rfl ?_
  obtain ⟨q_853, eq_853, hr⟩ := bind_e hr
  refine g_callVr hx (c_SA_size l g hC σ B M 6 eq_853) lk_L_30 ar_SA_size (pW σ B ae M 0 (by decide)) (T := TX10) (N := 11) rfl (As := [.int 6]) (rest := []) rfl (Nat.le_of_ble_eq_true rfl) ⟨Nat.le_of_ble_eq_true rfl, Nat.le_of_ble_eq_true rfl⟩ ⟨rfl, rfl⟩ ⟨Nat.zero_le _, Nat.zero_le _⟩ dL_isArchive_3 ?_
  refine g_istore_n hx 6 (i := 1) [(1, .int q_853), (0, .ref B)] dL_isArchive_6 rfl (by decide) rfl ?_
  refine g_iconst hx 7 (0) dL_isArchive_7 rfl ?_
  refine g_istore_n hx 8 (i := 2) [(2, .int 0), (1, .int q_853), (0, .ref B)] dL_isArchive_8 rfl (by decide) rfl ?_
  refine g_iconst hx 9 (0) dL_isArchive_9 rfl ?_
  refine g_istore_n hx 10 (i := 3) [(3, .int 0), (2, .int 0), (1, .int q_853), (0, .ref B)] dL_isArchive_10 rfl (by decide) rfl ?_
  refine g_iconst hx 11 (0) dL_isArchive_11 rfl ?_
  refine g_istore hx 12 (i := 4) [(4, .int 0), (3, .int 0), (2, .int 0), (1, .int q_853), (0, .ref B)] dL_isArchive_12 (by decide) rfl ?_
  refine g_iconst hx 14 (0) dL_isArchive_14 rfl ?_
  refine g_istore hx 15 (i := 5) [(5, .int 0), (4, .int 0), (3, .int 0), (2, .int 0), (1, .int q_853), (0, .ref B)] dL_isArchive_15 (by decide) rfl ?_
  refine g_iconst hx 17 (0) dL_isArchive_17 rfl ?_
  refine g_istore hx 18 (i := 6) [(6, .int 0), (5, .int 0), (4, .int 0), (3, .int 0), (2, .int 0), (1, .int q_853), (0, .ref B)] dL_isArchive_18 (by decide) rfl ?_
  refine g_ls [6, 5, 4, 3, 2, 1, 0] [(0, .ref B), (1, .int q_853), (2, .int 0), (3, .int 0), (4, .int 0), (5, .int 0), (6, .int 0)] rfl ?_
  exact w_Lw_isArchive_L20 hx hC hR FU M q_853 0 0 0 0 0 hr
