def mSz (k : Nat) : Int := match k with
  | 2 => 10
  | 3 => 60
  | 4 => 60
  | 5 => 1440
  | 6 => 60
  | 7 => 180
  | 8 => 60
  | 9 => 60
  | 10 => 60
  | 13 => 24
  | 15 => 3
  | 17 => 5
  | 18 => 80
  | 19 => 80
  | 20 => 5
  | 21 => 80
  | 22 => 20
  | 23 => 5
  | 24 => 100
  | 25 => 100
  | 26 => 100
  | 27 => 5
  | 28 => 5
  | 29 => 5
  | 30 => 5
  | 31 => 5
  | 32 => 80
  | 33 => 80
  | 34 => 1760
  | 37 => 4
  | 38 => 4
  | 39 => 4
  | 40 => 4
  | 41 => 4
  | 43 => 81
  | 44 => 80
  | 48 => 30
  | 49 => 30
  | 50 => 30
  | 52 => 20
  | 53 => 320
  | 56 => 360
  | 59 => 4
  | 60 => 4
  | 61 => 16
  | 62 => 16
  | 63 => 4
  | 64 => 22
  | 65 => 60
  | _ => 0
def mKd (k : Nat) : Nat := match k with
  | 2 => 21
  | 3 => 21
  | 4 => 21
  | 5 => 21
  | 6 => 21
  | 7 => 21
  | 8 => 21
  | 9 => 22
  | 10 => 22
  | 13 => 21
  | 15 => 21
  | 17 => 21
  | 18 => 21
  | 19 => 22
  | 20 => 21
  | 21 => 21
  | 22 => 21
  | 23 => 21
  | 24 => 21
  | 25 => 21
  | 26 => 21
  | 27 => 21
  | 28 => 21
  | 29 => 21
  | 30 => 21
  | 31 => 22
  | 32 => 21
  | 33 => 21
  | 34 => 21
  | 37 => 21
  | 38 => 21
  | 39 => 21
  | 40 => 21
  | 41 => 22
  | 43 => 21
  | 44 => 21
  | 48 => 21
  | 49 => 21
  | 50 => 22
  | 52 => 21
  | 53 => 21
  | 56 => 21
  | 59 => 21
  | 60 => 21
  | 61 => 21
  | 62 => 21
  | 63 => 21
  | 64 => 21
  | 65 => 22
  | _ => 0
/-- the model's object and its arrays lie at their names -/
def Mwf (h : Mh) : Prop := Kd h 3 = 12 ∧ ∀ k : Nat, mKd k ≠ 0 → Mr h 3 (k : Int) = some (1000 + k) ∧ Kd h (1000 + k) = mKd k ∧ Ln h (1000 + k) = mSz k
theorem mwr_2 {h : Mh} (W : Mwf h) : Mr h 3 2 = some 1002 := (W.2 2 (by decide)).1
theorem mwk_2 {h : Mh} (W : Mwf h) : Kd h 1002 = 21 := (W.2 2 (by decide)).2.1
theorem mwl_2 {h : Mh} (W : Mwf h) : Ln h 1002 = 10 := (W.2 2 (by decide)).2.2
theorem mwr_3 {h : Mh} (W : Mwf h) : Mr h 3 3 = some 1003 := (W.2 3 (by decide)).1
theorem mwk_3 {h : Mh} (W : Mwf h) : Kd h 1003 = 21 := (W.2 3 (by decide)).2.1
theorem mwl_3 {h : Mh} (W : Mwf h) : Ln h 1003 = 60 := (W.2 3 (by decide)).2.2
theorem mwr_4 {h : Mh} (W : Mwf h) : Mr h 3 4 = some 1004 := (W.2 4 (by decide)).1
theorem mwk_4 {h : Mh} (W : Mwf h) : Kd h 1004 = 21 := (W.2 4 (by decide)).2.1
theorem mwl_4 {h : Mh} (W : Mwf h) : Ln h 1004 = 60 := (W.2 4 (by decide)).2.2
theorem mwr_5 {h : Mh} (W : Mwf h) : Mr h 3 5 = some 1005 := (W.2 5 (by decide)).1
theorem mwk_5 {h : Mh} (W : Mwf h) : Kd h 1005 = 21 := (W.2 5 (by decide)).2.1
theorem mwl_5 {h : Mh} (W : Mwf h) : Ln h 1005 = 1440 := (W.2 5 (by decide)).2.2
theorem mwr_6 {h : Mh} (W : Mwf h) : Mr h 3 6 = some 1006 := (W.2 6 (by decide)).1
theorem mwk_6 {h : Mh} (W : Mwf h) : Kd h 1006 = 21 := (W.2 6 (by decide)).2.1
theorem mwl_6 {h : Mh} (W : Mwf h) : Ln h 1006 = 60 := (W.2 6 (by decide)).2.2
theorem mwr_7 {h : Mh} (W : Mwf h) : Mr h 3 7 = some 1007 := (W.2 7 (by decide)).1
theorem mwk_7 {h : Mh} (W : Mwf h) : Kd h 1007 = 21 := (W.2 7 (by decide)).2.1
theorem mwl_7 {h : Mh} (W : Mwf h) : Ln h 1007 = 180 := (W.2 7 (by decide)).2.2
theorem mwr_8 {h : Mh} (W : Mwf h) : Mr h 3 8 = some 1008 := (W.2 8 (by decide)).1
theorem mwk_8 {h : Mh} (W : Mwf h) : Kd h 1008 = 21 := (W.2 8 (by decide)).2.1
theorem mwl_8 {h : Mh} (W : Mwf h) : Ln h 1008 = 60 := (W.2 8 (by decide)).2.2
theorem mwr_9 {h : Mh} (W : Mwf h) : Mr h 3 9 = some 1009 := (W.2 9 (by decide)).1
theorem mwk_9 {h : Mh} (W : Mwf h) : Kd h 1009 = 22 := (W.2 9 (by decide)).2.1
theorem mwl_9 {h : Mh} (W : Mwf h) : Ln h 1009 = 60 := (W.2 9 (by decide)).2.2
theorem mwr_10 {h : Mh} (W : Mwf h) : Mr h 3 10 = some 1010 := (W.2 10 (by decide)).1
theorem mwk_10 {h : Mh} (W : Mwf h) : Kd h 1010 = 22 := (W.2 10 (by decide)).2.1
theorem mwl_10 {h : Mh} (W : Mwf h) : Ln h 1010 = 60 := (W.2 10 (by decide)).2.2
theorem mwr_13 {h : Mh} (W : Mwf h) : Mr h 3 13 = some 1013 := (W.2 13 (by decide)).1
theorem mwk_13 {h : Mh} (W : Mwf h) : Kd h 1013 = 21 := (W.2 13 (by decide)).2.1
theorem mwl_13 {h : Mh} (W : Mwf h) : Ln h 1013 = 24 := (W.2 13 (by decide)).2.2
theorem mwr_15 {h : Mh} (W : Mwf h) : Mr h 3 15 = some 1015 := (W.2 15 (by decide)).1
theorem mwk_15 {h : Mh} (W : Mwf h) : Kd h 1015 = 21 := (W.2 15 (by decide)).2.1
theorem mwl_15 {h : Mh} (W : Mwf h) : Ln h 1015 = 3 := (W.2 15 (by decide)).2.2
theorem mwr_17 {h : Mh} (W : Mwf h) : Mr h 3 17 = some 1017 := (W.2 17 (by decide)).1
theorem mwk_17 {h : Mh} (W : Mwf h) : Kd h 1017 = 21 := (W.2 17 (by decide)).2.1
theorem mwl_17 {h : Mh} (W : Mwf h) : Ln h 1017 = 5 := (W.2 17 (by decide)).2.2
theorem mwr_18 {h : Mh} (W : Mwf h) : Mr h 3 18 = some 1018 := (W.2 18 (by decide)).1
theorem mwk_18 {h : Mh} (W : Mwf h) : Kd h 1018 = 21 := (W.2 18 (by decide)).2.1
theorem mwl_18 {h : Mh} (W : Mwf h) : Ln h 1018 = 80 := (W.2 18 (by decide)).2.2
theorem mwr_19 {h : Mh} (W : Mwf h) : Mr h 3 19 = some 1019 := (W.2 19 (by decide)).1
theorem mwk_19 {h : Mh} (W : Mwf h) : Kd h 1019 = 22 := (W.2 19 (by decide)).2.1
theorem mwl_19 {h : Mh} (W : Mwf h) : Ln h 1019 = 80 := (W.2 19 (by decide)).2.2
theorem mwr_20 {h : Mh} (W : Mwf h) : Mr h 3 20 = some 1020 := (W.2 20 (by decide)).1
theorem mwk_20 {h : Mh} (W : Mwf h) : Kd h 1020 = 21 := (W.2 20 (by decide)).2.1
theorem mwl_20 {h : Mh} (W : Mwf h) : Ln h 1020 = 5 := (W.2 20 (by decide)).2.2
theorem mwr_21 {h : Mh} (W : Mwf h) : Mr h 3 21 = some 1021 := (W.2 21 (by decide)).1
theorem mwk_21 {h : Mh} (W : Mwf h) : Kd h 1021 = 21 := (W.2 21 (by decide)).2.1
theorem mwl_21 {h : Mh} (W : Mwf h) : Ln h 1021 = 80 := (W.2 21 (by decide)).2.2
theorem mwr_22 {h : Mh} (W : Mwf h) : Mr h 3 22 = some 1022 := (W.2 22 (by decide)).1
theorem mwk_22 {h : Mh} (W : Mwf h) : Kd h 1022 = 21 := (W.2 22 (by decide)).2.1
theorem mwl_22 {h : Mh} (W : Mwf h) : Ln h 1022 = 20 := (W.2 22 (by decide)).2.2
theorem mwr_23 {h : Mh} (W : Mwf h) : Mr h 3 23 = some 1023 := (W.2 23 (by decide)).1
theorem mwk_23 {h : Mh} (W : Mwf h) : Kd h 1023 = 21 := (W.2 23 (by decide)).2.1
theorem mwl_23 {h : Mh} (W : Mwf h) : Ln h 1023 = 5 := (W.2 23 (by decide)).2.2
theorem mwr_24 {h : Mh} (W : Mwf h) : Mr h 3 24 = some 1024 := (W.2 24 (by decide)).1
theorem mwk_24 {h : Mh} (W : Mwf h) : Kd h 1024 = 21 := (W.2 24 (by decide)).2.1
theorem mwl_24 {h : Mh} (W : Mwf h) : Ln h 1024 = 100 := (W.2 24 (by decide)).2.2
theorem mwr_25 {h : Mh} (W : Mwf h) : Mr h 3 25 = some 1025 := (W.2 25 (by decide)).1
theorem mwk_25 {h : Mh} (W : Mwf h) : Kd h 1025 = 21 := (W.2 25 (by decide)).2.1
theorem mwl_25 {h : Mh} (W : Mwf h) : Ln h 1025 = 100 := (W.2 25 (by decide)).2.2
theorem mwr_26 {h : Mh} (W : Mwf h) : Mr h 3 26 = some 1026 := (W.2 26 (by decide)).1
theorem mwk_26 {h : Mh} (W : Mwf h) : Kd h 1026 = 21 := (W.2 26 (by decide)).2.1
theorem mwl_26 {h : Mh} (W : Mwf h) : Ln h 1026 = 100 := (W.2 26 (by decide)).2.2
theorem mwr_27 {h : Mh} (W : Mwf h) : Mr h 3 27 = some 1027 := (W.2 27 (by decide)).1
theorem mwk_27 {h : Mh} (W : Mwf h) : Kd h 1027 = 21 := (W.2 27 (by decide)).2.1
theorem mwl_27 {h : Mh} (W : Mwf h) : Ln h 1027 = 5 := (W.2 27 (by decide)).2.2
theorem mwr_28 {h : Mh} (W : Mwf h) : Mr h 3 28 = some 1028 := (W.2 28 (by decide)).1
theorem mwk_28 {h : Mh} (W : Mwf h) : Kd h 1028 = 21 := (W.2 28 (by decide)).2.1
theorem mwl_28 {h : Mh} (W : Mwf h) : Ln h 1028 = 5 := (W.2 28 (by decide)).2.2
theorem mwr_29 {h : Mh} (W : Mwf h) : Mr h 3 29 = some 1029 := (W.2 29 (by decide)).1
theorem mwk_29 {h : Mh} (W : Mwf h) : Kd h 1029 = 21 := (W.2 29 (by decide)).2.1
theorem mwl_29 {h : Mh} (W : Mwf h) : Ln h 1029 = 5 := (W.2 29 (by decide)).2.2
theorem mwr_30 {h : Mh} (W : Mwf h) : Mr h 3 30 = some 1030 := (W.2 30 (by decide)).1
theorem mwk_30 {h : Mh} (W : Mwf h) : Kd h 1030 = 21 := (W.2 30 (by decide)).2.1
theorem mwl_30 {h : Mh} (W : Mwf h) : Ln h 1030 = 5 := (W.2 30 (by decide)).2.2
theorem mwr_31 {h : Mh} (W : Mwf h) : Mr h 3 31 = some 1031 := (W.2 31 (by decide)).1
theorem mwk_31 {h : Mh} (W : Mwf h) : Kd h 1031 = 22 := (W.2 31 (by decide)).2.1
theorem mwl_31 {h : Mh} (W : Mwf h) : Ln h 1031 = 5 := (W.2 31 (by decide)).2.2
theorem mwr_32 {h : Mh} (W : Mwf h) : Mr h 3 32 = some 1032 := (W.2 32 (by decide)).1
theorem mwk_32 {h : Mh} (W : Mwf h) : Kd h 1032 = 21 := (W.2 32 (by decide)).2.1
theorem mwl_32 {h : Mh} (W : Mwf h) : Ln h 1032 = 80 := (W.2 32 (by decide)).2.2
theorem mwr_33 {h : Mh} (W : Mwf h) : Mr h 3 33 = some 1033 := (W.2 33 (by decide)).1
theorem mwk_33 {h : Mh} (W : Mwf h) : Kd h 1033 = 21 := (W.2 33 (by decide)).2.1
theorem mwl_33 {h : Mh} (W : Mwf h) : Ln h 1033 = 80 := (W.2 33 (by decide)).2.2
theorem mwr_34 {h : Mh} (W : Mwf h) : Mr h 3 34 = some 1034 := (W.2 34 (by decide)).1
theorem mwk_34 {h : Mh} (W : Mwf h) : Kd h 1034 = 21 := (W.2 34 (by decide)).2.1
theorem mwl_34 {h : Mh} (W : Mwf h) : Ln h 1034 = 1760 := (W.2 34 (by decide)).2.2
theorem mwr_37 {h : Mh} (W : Mwf h) : Mr h 3 37 = some 1037 := (W.2 37 (by decide)).1
theorem mwk_37 {h : Mh} (W : Mwf h) : Kd h 1037 = 21 := (W.2 37 (by decide)).2.1
theorem mwl_37 {h : Mh} (W : Mwf h) : Ln h 1037 = 4 := (W.2 37 (by decide)).2.2
theorem mwr_38 {h : Mh} (W : Mwf h) : Mr h 3 38 = some 1038 := (W.2 38 (by decide)).1
theorem mwk_38 {h : Mh} (W : Mwf h) : Kd h 1038 = 21 := (W.2 38 (by decide)).2.1
theorem mwl_38 {h : Mh} (W : Mwf h) : Ln h 1038 = 4 := (W.2 38 (by decide)).2.2
theorem mwr_39 {h : Mh} (W : Mwf h) : Mr h 3 39 = some 1039 := (W.2 39 (by decide)).1
theorem mwk_39 {h : Mh} (W : Mwf h) : Kd h 1039 = 21 := (W.2 39 (by decide)).2.1
theorem mwl_39 {h : Mh} (W : Mwf h) : Ln h 1039 = 4 := (W.2 39 (by decide)).2.2
theorem mwr_40 {h : Mh} (W : Mwf h) : Mr h 3 40 = some 1040 := (W.2 40 (by decide)).1
theorem mwk_40 {h : Mh} (W : Mwf h) : Kd h 1040 = 21 := (W.2 40 (by decide)).2.1
theorem mwl_40 {h : Mh} (W : Mwf h) : Ln h 1040 = 4 := (W.2 40 (by decide)).2.2
theorem mwr_41 {h : Mh} (W : Mwf h) : Mr h 3 41 = some 1041 := (W.2 41 (by decide)).1
theorem mwk_41 {h : Mh} (W : Mwf h) : Kd h 1041 = 22 := (W.2 41 (by decide)).2.1
theorem mwl_41 {h : Mh} (W : Mwf h) : Ln h 1041 = 4 := (W.2 41 (by decide)).2.2
theorem mwr_43 {h : Mh} (W : Mwf h) : Mr h 3 43 = some 1043 := (W.2 43 (by decide)).1
theorem mwk_43 {h : Mh} (W : Mwf h) : Kd h 1043 = 21 := (W.2 43 (by decide)).2.1
theorem mwl_43 {h : Mh} (W : Mwf h) : Ln h 1043 = 81 := (W.2 43 (by decide)).2.2
theorem mwr_44 {h : Mh} (W : Mwf h) : Mr h 3 44 = some 1044 := (W.2 44 (by decide)).1
theorem mwk_44 {h : Mh} (W : Mwf h) : Kd h 1044 = 21 := (W.2 44 (by decide)).2.1
theorem mwl_44 {h : Mh} (W : Mwf h) : Ln h 1044 = 80 := (W.2 44 (by decide)).2.2
theorem mwr_48 {h : Mh} (W : Mwf h) : Mr h 3 48 = some 1048 := (W.2 48 (by decide)).1
theorem mwk_48 {h : Mh} (W : Mwf h) : Kd h 1048 = 21 := (W.2 48 (by decide)).2.1
theorem mwl_48 {h : Mh} (W : Mwf h) : Ln h 1048 = 30 := (W.2 48 (by decide)).2.2
theorem mwr_49 {h : Mh} (W : Mwf h) : Mr h 3 49 = some 1049 := (W.2 49 (by decide)).1
theorem mwk_49 {h : Mh} (W : Mwf h) : Kd h 1049 = 21 := (W.2 49 (by decide)).2.1
theorem mwl_49 {h : Mh} (W : Mwf h) : Ln h 1049 = 30 := (W.2 49 (by decide)).2.2
theorem mwr_50 {h : Mh} (W : Mwf h) : Mr h 3 50 = some 1050 := (W.2 50 (by decide)).1
theorem mwk_50 {h : Mh} (W : Mwf h) : Kd h 1050 = 22 := (W.2 50 (by decide)).2.1
theorem mwl_50 {h : Mh} (W : Mwf h) : Ln h 1050 = 30 := (W.2 50 (by decide)).2.2
theorem mwr_52 {h : Mh} (W : Mwf h) : Mr h 3 52 = some 1052 := (W.2 52 (by decide)).1
theorem mwk_52 {h : Mh} (W : Mwf h) : Kd h 1052 = 21 := (W.2 52 (by decide)).2.1
theorem mwl_52 {h : Mh} (W : Mwf h) : Ln h 1052 = 20 := (W.2 52 (by decide)).2.2
theorem mwr_53 {h : Mh} (W : Mwf h) : Mr h 3 53 = some 1053 := (W.2 53 (by decide)).1
theorem mwk_53 {h : Mh} (W : Mwf h) : Kd h 1053 = 21 := (W.2 53 (by decide)).2.1
theorem mwl_53 {h : Mh} (W : Mwf h) : Ln h 1053 = 320 := (W.2 53 (by decide)).2.2
theorem mwr_56 {h : Mh} (W : Mwf h) : Mr h 3 56 = some 1056 := (W.2 56 (by decide)).1
theorem mwk_56 {h : Mh} (W : Mwf h) : Kd h 1056 = 21 := (W.2 56 (by decide)).2.1
theorem mwl_56 {h : Mh} (W : Mwf h) : Ln h 1056 = 360 := (W.2 56 (by decide)).2.2
theorem mwr_59 {h : Mh} (W : Mwf h) : Mr h 3 59 = some 1059 := (W.2 59 (by decide)).1
theorem mwk_59 {h : Mh} (W : Mwf h) : Kd h 1059 = 21 := (W.2 59 (by decide)).2.1
theorem mwl_59 {h : Mh} (W : Mwf h) : Ln h 1059 = 4 := (W.2 59 (by decide)).2.2
theorem mwr_60 {h : Mh} (W : Mwf h) : Mr h 3 60 = some 1060 := (W.2 60 (by decide)).1
theorem mwk_60 {h : Mh} (W : Mwf h) : Kd h 1060 = 21 := (W.2 60 (by decide)).2.1
theorem mwl_60 {h : Mh} (W : Mwf h) : Ln h 1060 = 4 := (W.2 60 (by decide)).2.2
theorem mwr_61 {h : Mh} (W : Mwf h) : Mr h 3 61 = some 1061 := (W.2 61 (by decide)).1
theorem mwk_61 {h : Mh} (W : Mwf h) : Kd h 1061 = 21 := (W.2 61 (by decide)).2.1
theorem mwl_61 {h : Mh} (W : Mwf h) : Ln h 1061 = 16 := (W.2 61 (by decide)).2.2
theorem mwr_62 {h : Mh} (W : Mwf h) : Mr h 3 62 = some 1062 := (W.2 62 (by decide)).1
theorem mwk_62 {h : Mh} (W : Mwf h) : Kd h 1062 = 21 := (W.2 62 (by decide)).2.1
theorem mwl_62 {h : Mh} (W : Mwf h) : Ln h 1062 = 16 := (W.2 62 (by decide)).2.2
theorem mwr_63 {h : Mh} (W : Mwf h) : Mr h 3 63 = some 1063 := (W.2 63 (by decide)).1
theorem mwk_63 {h : Mh} (W : Mwf h) : Kd h 1063 = 21 := (W.2 63 (by decide)).2.1
theorem mwl_63 {h : Mh} (W : Mwf h) : Ln h 1063 = 4 := (W.2 63 (by decide)).2.2
theorem mwr_64 {h : Mh} (W : Mwf h) : Mr h 3 64 = some 1064 := (W.2 64 (by decide)).1
theorem mwk_64 {h : Mh} (W : Mwf h) : Kd h 1064 = 21 := (W.2 64 (by decide)).2.1
theorem mwl_64 {h : Mh} (W : Mwf h) : Ln h 1064 = 22 := (W.2 64 (by decide)).2.2
theorem mwr_65 {h : Mh} (W : Mwf h) : Mr h 3 65 = some 1065 := (W.2 65 (by decide)).1
theorem mwk_65 {h : Mh} (W : Mwf h) : Kd h 1065 = 22 := (W.2 65 (by decide)).2.1
theorem mwl_65 {h : Mh} (W : Mwf h) : Ln h 1065 = 60 := (W.2 65 (by decide)).2.2
theorem mwf_setI {h : Mh} {n : Nat} {k v : Int} (W : Mwf h) : Mwf (setI h n k v) := W
