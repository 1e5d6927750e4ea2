def LH : Lay := [(0, 6, 0, [some 1, some 11, some 21, some 73, some 75, none]), (0, 4, 0, [some 2, some 9, some 10]), (5, 6, 3, []), (3, 64, 0, []), (3, 64, 0, []), (3, 64, 0, []), (3, 64, 0, []), (3, 64, 0, []), (3, 64, 0, []), (1, 6, 0, []), (1, 6, 0, []), (0, 1, 0, [none, none, some 12, some 13, none, some 14, some 15, some 16, some 17, some 18, some 19, some 20, none]), (1, 12, 0, []), (1, 4, 0, []), (1, 10, 0, []), (1, 10, 0, []), (1, 24, 0, []), (1, 1024, 0, []), (2, 1024, 0, []), (2, 1024, 0, []), (1, 1024, 0, []), (0, 3, 0, [none, none, some 22, some 31, some 32, some 33, some 34, some 35, none]), (4, 8, 23, []), (1, 24, 0, []), (1, 24, 0, []), (1, 24, 0, []), (1, 24, 0, []), (1, 24, 0, []), (1, 24, 0, []), (1, 24, 0, []), (1, 24, 0, []), (1, 8, 0, []), (1, 8, 0, []), (1, 8, 0, []), (1, 8, 0, []), (0, 0, 0, [none, some 36, some 71, some 72]), (4, 34, 37, []), (1, 34, 0, []), (1, 34, 0, []), (1, 34, 0, []), (1, 34, 0, []), (1, 34, 0, []), (1, 34, 0, []), (1, 34, 0, []), (1, 34, 0, []), (1, 34, 0, []), (1, 34, 0, []), (1, 34, 0, []), (1, 34, 0, []), (1, 34, 0, []), (1, 34, 0, []), (1, 34, 0, []), (1, 34, 0, []), (1, 34, 0, []), (1, 34, 0, []), (1, 34, 0, []), (1, 34, 0, []), (1, 34, 0, []), (1, 34, 0, []), (1, 34, 0, []), (1, 34, 0, []), (1, 34, 0, []), (1, 34, 0, []), (1, 34, 0, []), (1, 34, 0, []), (1, 34, 0, []), (1, 34, 0, []), (1, 34, 0, []), (1, 34, 0, []), (1, 34, 0, []), (1, 34, 0, []), (1, 34, 0, []), (1, 34, 0, []), (0, 5, 0, [none, none, none, none, none, some 74]), (1, 20, 0, []), (0, 2, 0, [none, none, some 76, none, some 89, some 90, some 91, some 92, some 93, some 98, some 99, none]), (4, 12, 77, []), (1, 4, 0, []), (1, 4, 0, []), (1, 4, 0, []), (1, 4, 0, []), (1, 4, 0, []), (1, 4, 0, []), (1, 4, 0, []), (1, 4, 0, []), (1, 4, 0, []), (1, 4, 0, []), (1, 4, 0, []), (1, 4, 0, []), (1, 12, 0, []), (1, 4, 0, []), (1, 4, 0, []), (1, 4, 0, []), (4, 4, 94, []), (1, 12, 0, []), (1, 12, 0, []), (1, 12, 0, []), (1, 12, 0, []), (1, 501, 0, []), (3, 384, 0, [])]
theorem LH_0 : LH[0]? = some (0, 6, 0, [some 1, some 11, some 21, some 73, some 75, none]) := rfl
theorem LH_1 : LH[1]? = some (0, 4, 0, [some 2, some 9, some 10]) := rfl
theorem LH_2 : LH[2]? = some (5, 6, 3, []) := rfl
theorem LHr_2 {i : Nat} (h : i < 6) : LH[3 + i]? = some (3, 64, 0, []) := match i, h with
  | 0, _ => rfl
  | 1, _ => rfl
  | 2, _ => rfl
  | 3, _ => rfl
  | 4, _ => rfl
  | 5, _ => rfl
  | n + 6, h => absurd h (by omega)
theorem LH_9 : LH[9]? = some (1, 6, 0, []) := rfl
theorem LH_10 : LH[10]? = some (1, 6, 0, []) := rfl
theorem LH_11 : LH[11]? = some (0, 1, 0, [none, none, some 12, some 13, none, some 14, some 15, some 16, some 17, some 18, some 19, some 20, none]) := rfl
theorem LH_12 : LH[12]? = some (1, 12, 0, []) := rfl
theorem LH_13 : LH[13]? = some (1, 4, 0, []) := rfl
theorem LH_14 : LH[14]? = some (1, 10, 0, []) := rfl
theorem LH_15 : LH[15]? = some (1, 10, 0, []) := rfl
theorem LH_16 : LH[16]? = some (1, 24, 0, []) := rfl
theorem LH_17 : LH[17]? = some (1, 1024, 0, []) := rfl
theorem LH_18 : LH[18]? = some (2, 1024, 0, []) := rfl
theorem LH_19 : LH[19]? = some (2, 1024, 0, []) := rfl
theorem LH_20 : LH[20]? = some (1, 1024, 0, []) := rfl
theorem LH_21 : LH[21]? = some (0, 3, 0, [none, none, some 22, some 31, some 32, some 33, some 34, some 35, none]) := rfl
theorem LH_22 : LH[22]? = some (4, 8, 23, []) := rfl
theorem LHr_22 {i : Nat} (h : i < 8) : LH[23 + i]? = some (1, 24, 0, []) := match i, h with
  | 0, _ => rfl
  | 1, _ => rfl
  | 2, _ => rfl
  | 3, _ => rfl
  | 4, _ => rfl
  | 5, _ => rfl
  | 6, _ => rfl
  | 7, _ => rfl
  | n + 8, h => absurd h (by omega)
theorem LH_31 : LH[31]? = some (1, 8, 0, []) := rfl
theorem LH_32 : LH[32]? = some (1, 8, 0, []) := rfl
theorem LH_33 : LH[33]? = some (1, 8, 0, []) := rfl
theorem LH_34 : LH[34]? = some (1, 8, 0, []) := rfl
theorem LH_35 : LH[35]? = some (0, 0, 0, [none, some 36, some 71, some 72]) := rfl
theorem LH_36 : LH[36]? = some (4, 34, 37, []) := rfl
theorem LHr_36 {i : Nat} (h : i < 34) : LH[37 + i]? = some (1, 34, 0, []) := match i, h with
  | 0, _ => rfl
  | 1, _ => rfl
  | 2, _ => rfl
  | 3, _ => rfl
  | 4, _ => rfl
  | 5, _ => rfl
  | 6, _ => rfl
  | 7, _ => rfl
  | 8, _ => rfl
  | 9, _ => rfl
  | 10, _ => rfl
  | 11, _ => rfl
  | 12, _ => rfl
  | 13, _ => rfl
  | 14, _ => rfl
  | 15, _ => rfl
  | 16, _ => rfl
  | 17, _ => rfl
  | 18, _ => rfl
  | 19, _ => rfl
  | 20, _ => rfl
  | 21, _ => rfl
  | 22, _ => rfl
  | 23, _ => rfl
  | 24, _ => rfl
  | 25, _ => rfl
  | 26, _ => rfl
  | 27, _ => rfl
  | 28, _ => rfl
  | 29, _ => rfl
  | 30, _ => rfl
  | 31, _ => rfl
  | 32, _ => rfl
  | 33, _ => rfl
  | n + 34, h => absurd h (by omega)
theorem LH_71 : LH[71]? = some (1, 34, 0, []) := rfl
theorem LH_72 : LH[72]? = some (1, 34, 0, []) := rfl
theorem LH_73 : LH[73]? = some (0, 5, 0, [none, none, none, none, none, some 74]) := rfl
theorem LH_74 : LH[74]? = some (1, 20, 0, []) := rfl
theorem LH_75 : LH[75]? = some (0, 2, 0, [none, none, some 76, none, some 89, some 90, some 91, some 92, some 93, some 98, some 99, none]) := rfl
theorem LH_76 : LH[76]? = some (4, 12, 77, []) := rfl
theorem LHr_76 {i : Nat} (h : i < 12) : LH[77 + i]? = some (1, 4, 0, []) := match i, h with
  | 0, _ => rfl
  | 1, _ => rfl
  | 2, _ => rfl
  | 3, _ => rfl
  | 4, _ => rfl
  | 5, _ => rfl
  | 6, _ => rfl
  | 7, _ => rfl
  | 8, _ => rfl
  | 9, _ => rfl
  | 10, _ => rfl
  | 11, _ => rfl
  | n + 12, h => absurd h (by omega)
theorem LH_89 : LH[89]? = some (1, 12, 0, []) := rfl
theorem LH_90 : LH[90]? = some (1, 4, 0, []) := rfl
theorem LH_91 : LH[91]? = some (1, 4, 0, []) := rfl
theorem LH_92 : LH[92]? = some (1, 4, 0, []) := rfl
theorem LH_93 : LH[93]? = some (4, 4, 94, []) := rfl
theorem LHr_93 {i : Nat} (h : i < 4) : LH[94 + i]? = some (1, 12, 0, []) := match i, h with
  | 0, _ => rfl
  | 1, _ => rfl
  | 2, _ => rfl
  | 3, _ => rfl
  | n + 4, h => absurd h (by omega)
theorem LH_98 : LH[98]? = some (1, 501, 0, []) := rfl
theorem LH_99 : LH[99]? = some (3, 384, 0, []) := rfl
def LM : Lay := [(0, 7, 0, [none, some 1, some 2, some 3, none, none, none, none, some 4, some 5, some 6, some 7, some 8, some 9, some 10, some 11, some 12, some 13, some 14, some 15, some 16, some 17, some 18, some 19, some 20, some 21, some 22, some 23, some 24, some 25, none, none, none, none, none, some 26, some 27, some 28, some 29, some 30, none, some 31]), (1, 6, 0, []), (1, 6, 0, []), (3, 384, 0, []), (1, 12, 0, []), (1, 12, 0, []), (2, 12, 0, []), (1, 10, 0, []), (1, 10, 0, []), (1, 10, 0, []), (1, 10, 0, []), (1, 1024, 0, []), (2, 1024, 0, []), (2, 13312, 0, []), (1, 8, 0, []), (1, 8, 0, []), (1, 8, 0, []), (1, 8, 0, []), (1, 192, 0, []), (1, 24, 0, []), (1, 24, 0, []), (1, 8, 0, []), (2, 192, 0, []), (1, 34, 0, []), (1, 34, 0, []), (1, 20, 0, []), (1, 12, 0, []), (1, 4, 0, []), (1, 4, 0, []), (1, 4, 0, []), (1, 48, 0, []), (1, 24549, 0, [])]
theorem LM_0 : LM[0]? = some (0, 7, 0, [none, some 1, some 2, some 3, none, none, none, none, some 4, some 5, some 6, some 7, some 8, some 9, some 10, some 11, some 12, some 13, some 14, some 15, some 16, some 17, some 18, some 19, some 20, some 21, some 22, some 23, some 24, some 25, none, none, none, none, none, some 26, some 27, some 28, some 29, some 30, none, some 31]) := rfl
theorem LM_1 : LM[1]? = some (1, 6, 0, []) := rfl
theorem LM_2 : LM[2]? = some (1, 6, 0, []) := rfl
theorem LM_3 : LM[3]? = some (3, 384, 0, []) := rfl
theorem LM_4 : LM[4]? = some (1, 12, 0, []) := rfl
theorem LM_5 : LM[5]? = some (1, 12, 0, []) := rfl
theorem LM_6 : LM[6]? = some (2, 12, 0, []) := rfl
theorem LM_7 : LM[7]? = some (1, 10, 0, []) := rfl
theorem LM_8 : LM[8]? = some (1, 10, 0, []) := rfl
theorem LM_9 : LM[9]? = some (1, 10, 0, []) := rfl
theorem LM_10 : LM[10]? = some (1, 10, 0, []) := rfl
theorem LM_11 : LM[11]? = some (1, 1024, 0, []) := rfl
theorem LM_12 : LM[12]? = some (2, 1024, 0, []) := rfl
theorem LM_13 : LM[13]? = some (2, 13312, 0, []) := rfl
theorem LM_14 : LM[14]? = some (1, 8, 0, []) := rfl
theorem LM_15 : LM[15]? = some (1, 8, 0, []) := rfl
theorem LM_16 : LM[16]? = some (1, 8, 0, []) := rfl
theorem LM_17 : LM[17]? = some (1, 8, 0, []) := rfl
theorem LM_18 : LM[18]? = some (1, 192, 0, []) := rfl
theorem LM_19 : LM[19]? = some (1, 24, 0, []) := rfl
theorem LM_20 : LM[20]? = some (1, 24, 0, []) := rfl
theorem LM_21 : LM[21]? = some (1, 8, 0, []) := rfl
theorem LM_22 : LM[22]? = some (2, 192, 0, []) := rfl
theorem LM_23 : LM[23]? = some (1, 34, 0, []) := rfl
theorem LM_24 : LM[24]? = some (1, 34, 0, []) := rfl
theorem LM_25 : LM[25]? = some (1, 20, 0, []) := rfl
theorem LM_26 : LM[26]? = some (1, 12, 0, []) := rfl
theorem LM_27 : LM[27]? = some (1, 4, 0, []) := rfl
theorem LM_28 : LM[28]? = some (1, 4, 0, []) := rfl
theorem LM_29 : LM[29]? = some (1, 4, 0, []) := rfl
theorem LM_30 : LM[30]? = some (1, 48, 0, []) := rfl
theorem LM_31 : LM[31]? = some (1, 24549, 0, []) := rfl
def qX6_status  (M : Mem) (post : Int32 → Mem → Prop) : Prop :=
  post (M.1 0 5) M
def qX6_within (a0 : Int64) (a2 : Int32) (a3 : Int32) (M : Mem) (post : Int32 → Mem → Prop) : Prop :=
  ((lg_cmp a0 (a2.toInt64)) < 0 → post (0 : Int32) M) ∧ (¬ (lg_cmp a0 (a2.toInt64)) < 0 → (0 < (lg_cmp a0 (a3.toInt64)) → post (0 : Int32) M) ∧ (¬ 0 < (lg_cmp a0 (a3.toInt64)) → post (1 : Int32) M))
def qX4_isNumber (a0 : Int32) (M : Mem) (post : Int32 → Mem → Prop) : Prop :=
  qX6_within (a0.toInt64) (0 : Int32) (5 : Int32) M (fun r1 M2 => zb r1 ∧ post r1 M2)
def qX6_refuse (a1 : Int32) (M : Mem) (post : Int32 → Mem → Prop) : Prop :=
  ∀ M1 : Mem, M1 = sA M 0 5 a1 → post (0 : Int32) M1
def qJ7_fill_d0a16_b6 (k n : Nat) (a1 : Int64) (post : Mem → Prop) (R6 : Int32 → Int32 → Mem → Prop) (x3 : Int32) (x4 : Int32) (M : Mem) : Prop :=
  (x4 ≤ x3 → post M) ∧ (¬ x4 ≤ x3 → vp_in x3 n ∧ ∀ M4 : Mem, M4 = sB M k x3.toNatClampNeg a1 → ∀ v5 : Int32, v5 = x3 + 1 → R6 v5 x4 M4)
def qJ7_fill_d0a16 (k n : Nat) (a1 : Int64) (M : Mem) (post : Mem → Prop) : Prop :=
  ∀ (R6 : Int32 → Int32 → Mem → Prop), (∀ x3 x4 M, qJ7_fill_d0a16_b6 k n a1 post R6 x3 x4 M → R6 x3 x4 M) → ∀ v1 : Int32, v1 = (nI n) → R6 (0 : Int32) v1 M
def qX4_make (a1 : Int32) (a2 : Int32) (a3 : Int32) (M : Mem) (post : Mem → Prop) : Prop :=
  vp_in a1 6 ∧ qJ7_fill_d0a16 (3 + a1.toNatClampNeg) 64 (0 : Int64) M (fun M3 => vp_in a1 6 ∧ ∀ M5 : Mem, M5 = sA M3 9 a1.toNatClampNeg a2 → vp_in a1 6 ∧ ∀ M7 : Mem, M7 = sA M5 10 a1.toNatClampNeg a3 → post M7)
def qX6_agree  (M : Mem) (post : Int32 → Mem → Prop) : Prop :=
  ∀ M1 : Mem, M1 = sA M 0 5 (0 : Int32) → post (1 : Int32) M1
def qX6_sheet (a1 : Int32) (a2 : Int32) (a3 : Int32) (M : Mem) (post : Int32 → Mem → Prop) : Prop :=
  qX4_isNumber a1 M (fun r1 M2 => (r1 = 0 → qX6_refuse (1 : Int32) M2 (fun r4 M5 => zb r4 ∧ post r4 M5)) ∧ (¬ r1 = 0 → qX6_within (a2.toInt64) (0 : Int32) (3 : Int32) M2 (fun r6 M7 => (r6 = 0 → qX6_refuse (1 : Int32) M7 (fun r9 M10 => zb r9 ∧ post r9 M10)) ∧ (¬ r6 = 0 → qX6_within (a3.toInt64) (0 : Int32) (64 : Int32) M7 (fun r11 M12 => (¬ r11 = 0 → qX4_make a1 a2 a3 M12 (fun M15 => qX6_agree M15 (fun r16 M17 => zb r16 ∧ post r16 M17))) ∧ (r11 = 0 → qX6_refuse (1 : Int32) M12 (fun r18 M19 => zb r18 ∧ post r18 M19)))))))
def qX4_isMissing (a1 : Int32) (M : Mem) (post : Int32 → Mem → Prop) : Prop :=
  vp_in a1 6 ∧ (¬ (M.1 10 a1.toNatClampNeg) = (-1 : Int32) → post (0 : Int32) M) ∧ ((M.1 10 a1.toNatClampNeg) = (-1 : Int32) → post (1 : Int32) M)
def qX4_whyNoPlace (a1 : Int32) (a2 : Int32) (M : Mem) (post : Int32 → Mem → Prop) : Prop :=
  qX4_isNumber a1 M (fun r1 M2 => (¬ r1 = 0 → qX4_isMissing a1 M2 (fun r4 M5 => (r4 = 0 → vp_in a1 6 ∧ qX6_within (a2.toInt64) (0 : Int32) ((M5.1 10 a1.toNatClampNeg) - (1 : Int32)) M5 (fun r8 M9 => (r8 = 0 → post (3 : Int32) M9) ∧ (¬ r8 = 0 → post (0 : Int32) M9))) ∧ (¬ r4 = 0 → post (2 : Int32) M5))) ∧ (r1 = 0 → post (1 : Int32) M2))
def qX4_cut (a0 : Int64) (a2 : Int32) (M : Mem) (post : Int64 → Mem → Prop) : Prop :=
  (a2.toInt = 0 → post (((a0.toInt32).toInt8.toInt32).toInt64) M) ∧ (a2.toInt = 1 → post (((a0.toInt32).toInt16.toInt32).toInt64) M) ∧ (a2.toInt = 2 → post ((a0.toInt32).toInt64) M) ∧ ((a2.toInt < 0 ∨ 2 < a2.toInt) → post a0 M)
def qX4_put (a1 : Int32) (a2 : Int32) (a3 : Int64) (M : Mem) (post : Mem → Prop) : Prop :=
  vp_in a1 6 ∧ vp_in a1 6 ∧ qX4_cut a3 (M.1 9 a1.toNatClampNeg) M (fun r3 M4 => vp_in a2 64 ∧ ∀ M6 : Mem, M6 = sB M4 (3 + a1.toNatClampNeg) a2.toNatClampNeg r3 → post M6)
def qX6_write (a1 : Int32) (a2 : Int32) (a3 : Int64) (M : Mem) (post : Int32 → Mem → Prop) : Prop :=
  qX4_whyNoPlace a1 a2 M (fun r1 M2 => (r1 = 0 → qX4_put a1 a2 a3 M2 (fun M5 => qX6_agree M5 (fun r6 M7 => zb r6 ∧ post r6 M7))) ∧ (¬ r1 = 0 → qX6_refuse r1 M2 (fun r8 M9 => zb r8 ∧ post r8 M9)))
def qX6_deny (a1 : Int32) (M : Mem) (post : Int32 → Mem → Prop) : Prop :=
  ∀ M1 : Mem, M1 = sA M 0 5 a1 → post (-1 : Int32) M1
def qX4_at (a1 : Int32) (a2 : Int32) (M : Mem) (post : Int64 → Mem → Prop) : Prop :=
  vp_in a1 6 ∧ vp_in a2 64 ∧ post (M.2 (3 + a1.toNatClampNeg) a2.toNatClampNeg) M
def qX6_read (a1 : Int32) (a2 : Int32) (M : Mem) (post : Int64 → Mem → Prop) : Prop :=
  qX4_whyNoPlace a1 a2 M (fun r1 M2 => (r1 = 0 → ∀ M4 : Mem, M4 = sA M2 0 5 (0 : Int32) → qX4_at a1 a2 M4 (fun r5 M6 => post r5 M6)) ∧ (¬ r1 = 0 → qX6_deny r1 M2 (fun r7 M8 => post (r7.toInt64) M8)))
def qX4_lose (a1 : Int32) (M : Mem) (post : Mem → Prop) : Prop :=
  vp_in a1 6 ∧ ∀ M2 : Mem, M2 = sA M 10 a1.toNatClampNeg (-1 : Int32) → post M2
def qX6_drop (a1 : Int32) (M : Mem) (post : Int32 → Mem → Prop) : Prop :=
  qX4_isNumber a1 M (fun r1 M2 => (¬ r1 = 0 → qX4_isMissing a1 M2 (fun r4 M5 => (r4 = 0 → qX4_lose a1 M5 (fun M8 => qX6_agree M8 (fun r9 M10 => zb r9 ∧ post r9 M10))) ∧ (¬ r4 = 0 → qX6_refuse (2 : Int32) M5 (fun r11 M12 => zb r11 ∧ post r11 M12)))) ∧ (r1 = 0 → qX6_refuse (1 : Int32) M2 (fun r13 M14 => zb r13 ∧ post r13 M14)))
def qX4_spans (a1 : Int32) (a2 : Int32) (a3 : Int32) (M : Mem) (post : Int32 → Mem → Prop) : Prop :=
  vp_in a1 6 ∧ (0 < (lg_cmp ((a2.toInt64) + (a3.toInt64)) ((M.1 10 a1.toNatClampNeg).toInt64)) → post (0 : Int32) M) ∧ (¬ 0 < (lg_cmp ((a2.toInt64) + (a3.toInt64)) ((M.1 10 a1.toNatClampNeg).toInt64)) → post (1 : Int32) M)
def qX4_carry_b24 (a1 : Int32) (a2 : Int32) (a3 : Int32) (a4 : Int32) (a5 : Int32) (post : Mem → Prop) (R24 : Int32 → Mem → Prop) (x6 : Int32) (M : Mem) : Prop :=
  ((a4 + a5) ≤ x6 → post M) ∧ (¬ (a4 + a5) ≤ x6 → vp_in a3 6 ∧ vp_in x6 64 ∧ qX4_put a3 x6 (M.2 (3 + a3.toNatClampNeg) x6.toNatClampNeg) M (fun M9 => ∀ v10 : Int32, v10 = x6 + 1 → R24 v10 M9))
def qX4_carry (a1 : Int32) (a2 : Int32) (a3 : Int32) (a4 : Int32) (a5 : Int32) (M : Mem) (post : Mem → Prop) : Prop :=
  ∀ (R24 : Int32 → Mem → Prop), (∀ x6 M, qX4_carry_b24 a1 a2 a3 a4 a5 post R24 x6 M → R24 x6 M) → vp_in a1 6 ∧ vp_in a3 6 ∧ (¬ a2 < 0 ∧ ¬ a4 < 0 ∧ ¬ a5 < 0 ∧ a2.toNatClampNeg + a5.toNatClampNeg ≤ 64 ∧ a4.toNatClampNeg + a5.toNatClampNeg ≤ 64) ∧ ∀ M3 : Mem, M3 = sBr M (3 + a3.toNatClampNeg) (va_cpy (M.2 (3 + a1.toNatClampNeg)) (M.2 (3 + a3.toNatClampNeg)) a2.toNatClampNeg a4.toNatClampNeg a5.toNatClampNeg) → R24 a4 M3
def qX6_copy_b28 (a1 : Int32) (a2 : Int32) (a3 : Int32) (a4 : Int32) (a5 : Int32) (post : Int32 → Mem → Prop) (R28 : Mem → Prop)  (M : Mem) : Prop :=
  qX6_refuse (1 : Int32) M (fun r34 M35 => zb r34 ∧ post r34 M35)
def qX6_copy (a1 : Int32) (a2 : Int32) (a3 : Int32) (a4 : Int32) (a5 : Int32) (M : Mem) (post : Int32 → Mem → Prop) : Prop :=
  ∀ (R28 : Mem → Prop), (∀ M, qX6_copy_b28 a1 a2 a3 a4 a5 post R28 M → R28 M) → qX4_isNumber a1 M (fun r1 M2 => (r1 = 0 → R28 M2) ∧ (¬ r1 = 0 → qX4_isNumber a3 M2 (fun r4 M5 => (r4 = 0 → R28 M5) ∧ (¬ r4 = 0 → (a2 < 0 → R28 M5) ∧ (¬ a2 < 0 → (a4 < 0 → R28 M5) ∧ (¬ a4 < 0 → (0 ≤ a5 → qX4_isMissing a1 M5 (fun r10 M11 => (¬ r10 = 0 → qX6_refuse (2 : Int32) M11 (fun r13 M14 => zb r13 ∧ post r13 M14)) ∧ (r10 = 0 → qX4_isMissing a3 M11 (fun r15 M16 => (r15 = 0 → qX4_spans a1 a2 a5 M16 (fun r18 M19 => (r18 = 0 → qX6_refuse (3 : Int32) M19 (fun r21 M22 => zb r21 ∧ post r21 M22)) ∧ (¬ r18 = 0 → qX4_spans a3 a4 a5 M19 (fun r23 M24 => (¬ r23 = 0 → qX4_carry a1 a2 a3 a4 a5 M24 (fun M27 => qX6_agree M27 (fun r28 M29 => zb r28 ∧ post r28 M29))) ∧ (r23 = 0 → qX6_refuse (3 : Int32) M24 (fun r30 M31 => zb r30 ∧ post r30 M31)))))) ∧ (¬ r15 = 0 → qX6_refuse (2 : Int32) M16 (fun r32 M33 => zb r32 ∧ post r32 M33)))))) ∧ (¬ 0 ≤ a5 → R28 M5)))))))
def qX6_none  (M : Mem) (post : Int32 → Mem → Prop) : Prop :=
  qX6_refuse (8 : Int32) M (fun r1 M2 => zb r1 ∧ post r1 M2)
def qX1_addMachine (a1 : Int32) (a2 : Int32) (M : Mem) (post : Int32 → Mem → Prop) : Prop :=
  ∀ M1 : Mem, M1 = sA M 11 0 ((M.1 11 0) + (1 : Int32)) → ∀ v2 : Int32, v2 = (M.1 11 0) → vp_in v2 12 ∧ ∀ M4 : Mem, M4 = sA M1 12 v2.toNatClampNeg a1 → vp_in a2 4 ∧ vp_in a2 4 ∧ ∀ M7 : Mem, M7 = sA M4 13 a2.toNatClampNeg ((M4.1 13 a2.toNatClampNeg) ||| ((1 : Int32) <<< (v2 &&& 31))) → ∀ M8 : Mem, M8 = sA M7 11 4 ((M7.1 11 4) ||| ((1 : Int32) <<< (v2 &&& 31))) → post v2 M8
def qX6_answer (a1 : Int32) (M : Mem) (post : Int32 → Mem → Prop) : Prop :=
  ∀ M1 : Mem, M1 = sA M 0 5 (0 : Int32) → post a1 M1
def qX6_machine (a1 : Int32) (a2 : Int32) (M : Mem) (post : Int32 → Mem → Prop) : Prop :=
  qX6_within (a1.toInt64) (1 : Int32) (100 : Int32) M (fun r1 M2 => (r1 = 0 → qX6_deny (1 : Int32) M2 (fun r4 M5 => post r4 M5)) ∧ (¬ r1 = 0 → qX6_within (a2.toInt64) (0 : Int32) (3 : Int32) M2 (fun r6 M7 => (¬ r6 = 0 → (¬ (M7.1 11 0) = (12 : Int32) → qX1_addMachine a1 a2 M7 (fun r10 M11 => qX6_answer r10 M11 (fun r12 M13 => post r12 M13))) ∧ ((M7.1 11 0) = (12 : Int32) → qX6_deny (4 : Int32) M7 (fun r14 M15 => post r14 M15))) ∧ (r6 = 0 → qX6_deny (1 : Int32) M7 (fun r16 M17 => post r16 M17)))))
def qX1_hasMachine (a1 : Int32) (M : Mem) (post : Int32 → Mem → Prop) : Prop :=
  qX6_within (a1.toInt64) (0 : Int32) ((M.1 11 0) - (1 : Int32)) M (fun r1 M2 => zb r1 ∧ post r1 M2)
def qX1_has (a0 : Int32) (a1 : Int32) (M : Mem) (post : Int32 → Mem → Prop) : Prop :=
  (((a0 >>> (a1 &&& 31)) &&& (1 : Int32)) = 0 → post (0 : Int32) M) ∧ (¬ ((a0 >>> (a1 &&& 31)) &&& (1 : Int32)) = 0 → post (1 : Int32) M)
def qX1_isUp (a1 : Int32) (M : Mem) (post : Int32 → Mem → Prop) : Prop :=
  qX1_has (M.1 11 4) a1 M (fun r1 M2 => zb r1 ∧ post r1 M2)
def qX1_turn (a1 : Int32) (M : Mem) (post : Mem → Prop) : Prop :=
  ∀ M1 : Mem, M1 = sA M 11 4 ((M.1 11 4) ^^^ ((1 : Int32) <<< (a1 &&& 31))) → post M1
def qX6_up (a1 : Int32) (a2 : Int32) (M : Mem) (post : Int32 → Mem → Prop) : Prop :=
  qX1_hasMachine a1 M (fun r1 M2 => (¬ r1 = 0 → qX1_isUp a1 M2 (fun r4 M5 => (¬ r4 = a2 → qX1_turn a1 M5 (fun M8 => qX6_agree M8 (fun r9 M10 => zb r9 ∧ post r9 M10))) ∧ (r4 = a2 → qX6_refuse (5 : Int32) M5 (fun r11 M12 => zb r11 ∧ post r11 M12)))) ∧ (r1 = 0 → qX6_refuse (1 : Int32) M2 (fun r13 M14 => zb r13 ∧ post r13 M14)))
def qX6_isHour (a0 : Int32) (M : Mem) (post : Int32 → Mem → Prop) : Prop :=
  qX6_within (a0.toInt64) (0 : Int32) (23 : Int32) M (fun r1 M2 => zb r1 ∧ post r1 M2)
def qX3_forget  (M : Mem) (post : Mem → Prop) : Prop :=
  ∀ M1 : Mem, M1 = sA M 21 8 (-1 : Int32) → post M1
def qX1_markAsked_b2 (a1 : Int32) (post : Mem → Prop) (R2 : Int32 → Mem → Prop) (x2 : Int32) (M : Mem) : Prop :=
  (x2 ≤ 0 → post M) ∧ (¬ x2 ≤ 0 → vp_in x2 1024 ∧ ∀ M3 : Mem, M3 = sA M 19 x2.toNatClampNeg (vp_nar .boolean (1 : Int32)) → ∀ v4 : Int32, v4 = ((x2 - (1 : Int32)) &&& a1) → R2 v4 M3)
def qX1_markAsked (a1 : Int32) (M : Mem) (post : Mem → Prop) : Prop :=
  ∀ (R2 : Int32 → Mem → Prop), (∀ x2 M, qX1_markAsked_b2 a1 post R2 x2 M → R2 x2 M) → R2 a1 M
def qX1_tally_b7  (post : Mem → Prop) (R7 : Int32 → Mem → Prop) (R21 : Int32 → Int32 → Int32 → Mem → Prop) (x1 : Int32) (M : Mem) : Prop :=
  ((M.1 11 1) ≤ x1 → post M) ∧ (¬ (M.1 11 1) ≤ x1 → ∀ v3 : Int32, v3 = ((1 : Int32) <<< (x1 &&& 31)) → R21 x1 v3 (0 : Int32) M)
def qX1_tally_b21  (post : Mem → Prop) (R7 : Int32 → Mem → Prop) (R21 : Int32 → Int32 → Int32 → Mem → Prop) (x1 : Int32) (x2 : Int32) (x3 : Int32) (M : Mem) : Prop :=
  (x2 ≤ x3 → ∀ v5 : Int32, v5 = x1 + 1 → R7 v5 M) ∧ (¬ x2 ≤ x3 → vp_in x3 1024 ∧ vp_in x1 10 ∧ vp_in (x2 ||| x3) 1024 ∧ ∀ M9 : Mem, M9 = sA M 17 (x2 ||| x3).toNatClampNeg ((M.1 17 x3.toNatClampNeg) + (M.1 14 x1.toNatClampNeg)) → vp_in x3 1024 ∧ (¬ (M9.1 18 x3.toNatClampNeg) = 0 → vp_in (x2 ||| x3) 1024 ∧ ∀ M13 : Mem, M13 = sA M9 18 (x2 ||| x3).toNatClampNeg (vp_nar .boolean (1 : Int32)) → ∀ v14 : Int32, v14 = x3 + 1 → R21 x1 x2 v14 M13) ∧ ((M9.1 18 x3.toNatClampNeg) = 0 → vp_in x1 10 ∧ (((M9.1 15 x1.toNatClampNeg) &&& x3) = 0 → vp_in (x2 ||| x3) 1024 ∧ ∀ M18 : Mem, M18 = sA M9 18 (x2 ||| x3).toNatClampNeg (vp_nar .boolean (0 : Int32)) → ∀ v19 : Int32, v19 = x3 + 1 → R21 x1 x2 v19 M18) ∧ (¬ ((M9.1 15 x1.toNatClampNeg) &&& x3) = 0 → vp_in (x2 ||| x3) 1024 ∧ ∀ M21 : Mem, M21 = sA M9 18 (x2 ||| x3).toNatClampNeg (vp_nar .boolean (1 : Int32)) → ∀ v22 : Int32, v22 = x3 + 1 → R21 x1 x2 v22 M21)))
def qX1_tally  (M : Mem) (post : Mem → Prop) : Prop :=
  ∀ (R7 : Int32 → Mem → Prop) (R21 : Int32 → Int32 → Int32 → Mem → Prop), (∀ x1 M, qX1_tally_b7 post R7 R21 x1 M → R7 x1 M) → (∀ x1 x2 x3 M, qX1_tally_b21 post R7 R21 x1 x2 x3 M → R21 x1 x2 x3 M) → ∀ M1 : Mem, M1 = sA M 11 12 (-1 : Int32) → R7 (0 : Int32) M1
def qX1_addAsk_b24 (a1 : Int32) (a2 : Int32) (a3 : Int32) (post : Int32 → Mem → Prop) (R24 : Int32 → Int32 → Mem → Prop) (x4 : Int32) (x5 : Int32) (M : Mem) : Prop :=
  (a3 < x5 → qX1_tally M (fun M7 => post x4 M7)) ∧ (¬ a3 < x5 → vp_in x5 24 ∧ vp_in x5 24 ∧ ∀ M10 : Mem, M10 = sA M 16 x5.toNatClampNeg ((M.1 16 x5.toNatClampNeg) ||| ((1 : Int32) <<< (x4 &&& 31))) → vp_in x5 24 ∧ qX1_markAsked (M10.1 16 x5.toNatClampNeg) M10 (fun M13 => ∀ v14 : Int32, v14 = x5 + 1 → R24 x4 v14 M13))
def qX1_addAsk (a1 : Int32) (a2 : Int32) (a3 : Int32) (M : Mem) (post : Int32 → Mem → Prop) : Prop :=
  ∀ (R24 : Int32 → Int32 → Mem → Prop), (∀ x4 x5 M, qX1_addAsk_b24 a1 a2 a3 post R24 x4 x5 M → R24 x4 x5 M) → ∀ M1 : Mem, M1 = sA M 11 1 ((M.1 11 1) + (1 : Int32)) → ∀ v2 : Int32, v2 = (M.1 11 1) → vp_in v2 10 ∧ ∀ M4 : Mem, M4 = sA M1 14 v2.toNatClampNeg a1 → R24 v2 a2 M4
def qX6_ask (a1 : Int32) (a2 : Int32) (a3 : Int32) (M : Mem) (post : Int32 → Mem → Prop) : Prop :=
  qX6_within (a1.toInt64) (1 : Int32) (100 : Int32) M (fun r1 M2 => (r1 = 0 → qX6_deny (1 : Int32) M2 (fun r4 M5 => post r4 M5)) ∧ (¬ r1 = 0 → qX6_isHour a2 M2 (fun r6 M7 => (r6 = 0 → qX6_deny (1 : Int32) M7 (fun r9 M10 => post r9 M10)) ∧ (¬ r6 = 0 → qX6_isHour a3 M7 (fun r11 M12 => (r11 = 0 → qX6_deny (1 : Int32) M12 (fun r14 M15 => post r14 M15)) ∧ (¬ r11 = 0 → (a2 ≤ a3 → (¬ (M12.1 11 1) = (10 : Int32) → qX3_forget M12 (fun M19 => qX1_addAsk a1 a2 a3 M19 (fun r20 M21 => qX6_answer r20 M21 (fun r22 M23 => post r22 M23)))) ∧ ((M12.1 11 1) = (10 : Int32) → qX6_deny (4 : Int32) M12 (fun r24 M25 => post r24 M25))) ∧ (¬ a2 ≤ a3 → qX6_deny (1 : Int32) M12 (fun r26 M27 => post r26 M27))))))))
def qX1_hasAsk (a1 : Int32) (M : Mem) (post : Int32 → Mem → Prop) : Prop :=
  qX6_within (a1.toInt64) (0 : Int32) ((M.1 11 1) - (1 : Int32)) M (fun r1 M2 => zb r1 ∧ post r1 M2)
def qX1_areFoes (a1 : Int32) (a2 : Int32) (M : Mem) (post : Int32 → Mem → Prop) : Prop :=
  vp_in a1 10 ∧ qX1_has (M.1 15 a1.toNatClampNeg) a2 M (fun r2 M3 => zb r2 ∧ post r2 M3)
def qX1_turnFoes (a1 : Int32) (a2 : Int32) (M : Mem) (post : Mem → Prop) : Prop :=
  vp_in a1 10 ∧ vp_in a1 10 ∧ ∀ M3 : Mem, M3 = sA M 15 a1.toNatClampNeg ((M.1 15 a1.toNatClampNeg) ^^^ ((1 : Int32) <<< (a2 &&& 31))) → vp_in a2 10 ∧ vp_in a2 10 ∧ ∀ M6 : Mem, M6 = sA M3 15 a2.toNatClampNeg ((M3.1 15 a2.toNatClampNeg) ^^^ ((1 : Int32) <<< (a1 &&& 31))) → qX1_tally M6 (fun M8 => post M8)
def qX6_apart (a1 : Int32) (a2 : Int32) (a3 : Int32) (M : Mem) (post : Int32 → Mem → Prop) : Prop :=
  qX1_hasAsk a1 M (fun r1 M2 => (r1 = 0 → qX6_refuse (1 : Int32) M2 (fun r4 M5 => zb r4 ∧ post r4 M5)) ∧ (¬ r1 = 0 → qX1_hasAsk a2 M2 (fun r6 M7 => (r6 = 0 → qX6_refuse (1 : Int32) M7 (fun r9 M10 => zb r9 ∧ post r9 M10)) ∧ (¬ r6 = 0 → (¬ a1 = a2 → qX1_areFoes a1 a2 M7 (fun r12 M13 => (¬ r12 = a3 → qX3_forget M13 (fun M16 => qX1_turnFoes a1 a2 M16 (fun M18 => qX6_agree M18 (fun r19 M20 => zb r19 ∧ post r19 M20)))) ∧ (r12 = a3 → qX6_refuse (5 : Int32) M13 (fun r21 M22 => zb r21 ∧ post r21 M22)))) ∧ (a1 = a2 → qX6_refuse (1 : Int32) M7 (fun r23 M24 => zb r23 ∧ post r23 M24))))))
def qX1_standing (a1 : Int32) (M : Mem) (post : Int32 → Mem → Prop) : Prop :=
  (¬ a1 = 0 → ((12 : Int32) < a1 → vp_in ((a1 - (12 : Int32)) - (1 : Int32)) 4 ∧ post ((M.1 11 4) &&& ((M.1 13 ((a1 - (12 : Int32)) - (1 : Int32)).toNatClampNeg) ^^^ (-1 : Int32))) M) ∧ (¬ (12 : Int32) < a1 → post ((M.1 11 4) &&& (((1 : Int32) <<< ((a1 - (1 : Int32)) &&& 31)) ^^^ (-1 : Int32))) M)) ∧ (a1 = 0 → post (M.1 11 4) M)
def qX1_sizeOf_b4 (a1 : Int32) (post : Int32 → Mem → Prop) (R4 : Int32 → Int32 → Mem → Prop) (x2 : Int32) (x3 : Int32) (M : Mem) : Prop :=
  ((M.1 11 0) ≤ x3 → post x2 M) ∧ (¬ (M.1 11 0) ≤ x3 → qX1_has a1 x3 M (fun r2 M3 => (r2 = 0 → ∀ v5 : Int32, v5 = (x2 + (0 : Int32)) → ∀ v6 : Int32, v6 = x3 + 1 → R4 v5 v6 M3) ∧ (¬ r2 = 0 → vp_in x3 12 ∧ ∀ v8 : Int32, v8 = (x2 + (M3.1 12 x3.toNatClampNeg)) → ∀ v9 : Int32, v9 = x3 + 1 → R4 v8 v9 M3)))
def qX1_sizeOf (a1 : Int32) (M : Mem) (post : Int32 → Mem → Prop) : Prop :=
  ∀ (R4 : Int32 → Int32 → Mem → Prop), (∀ x2 x3 M, qX1_sizeOf_b4 a1 post R4 x2 x3 M → R4 x2 x3 M) → R4 (0 : Int32) (0 : Int32) M
def qX6_count (a1 : Int32) (M : Mem) (post : Int32 → Mem → Prop) : Prop :=
  (a1.toInt = 0 → qX6_answer (M.1 11 0) M (fun r2 M3 => post r2 M3)) ∧ (a1.toInt = 1 → qX6_answer (M.1 11 1) M (fun r4 M5 => post r4 M5)) ∧ (a1.toInt = 2 → qX6_answer (M.1 21 0) M (fun r6 M7 => post r6 M7)) ∧ (a1.toInt = 3 → qX6_answer (M.1 75 0) M (fun r8 M9 => post r8 M9)) ∧ (a1.toInt = 4 → qX1_standing (0 : Int32) M (fun r10 M11 => qX1_sizeOf r10 M11 (fun r12 M13 => qX6_answer r12 M13 (fun r14 M15 => post r14 M15)))) ∧ ((a1.toInt < 0 ∨ 4 < a1.toInt) → qX6_deny (1 : Int32) M (fun r16 M17 => post r16 M17))
def qX1_isFall (a0 : Int32) (M : Mem) (post : Int32 → Mem → Prop) : Prop :=
  qX6_within (a0.toInt64) (0 : Int32) (16 : Int32) M (fun r1 M2 => zb r1 ∧ post r1 M2)
def qJ7_fill_53178_b5 (k n : Nat) (a1 : Int32) (post : Mem → Prop) (R5 : Int32 → Int32 → Mem → Prop) (x2 : Int32) (x3 : Int32) (M : Mem) : Prop :=
  (x3 ≤ x2 → post M) ∧ (¬ x3 ≤ x2 → vp_in x2 n ∧ ∀ M4 : Mem, M4 = sA M k x2.toNatClampNeg a1 → ∀ v5 : Int32, v5 = x2 + 1 → R5 v5 x3 M4)
def qJ7_fill_53178 (k n : Nat) (a1 : Int32) (M : Mem) (post : Mem → Prop) : Prop :=
  ∀ (R5 : Int32 → Int32 → Mem → Prop), (∀ x2 x3 M, qJ7_fill_53178_b5 k n a1 post R5 x2 x3 M → R5 x2 x3 M) → ∀ v1 : Int32, v1 = (nI n) → R5 (0 : Int32) v1 M
def qX1_greatestOn_b2 (a1 : Int32) (a2 : Int32) (post : Int32 → Mem → Prop) (R2 : Int32 → Mem → Prop) (R44 : Int32 → Mem → Prop) (x3 : Int32) (M : Mem) : Prop :=
  (x3 ≤ 0 → post (0 : Int32) M) ∧ (¬ x3 ≤ 0 → vp_in x3 1024 ∧ vp_in a1 12 ∧ ((M.1 12 a1.toNatClampNeg) < (M.1 17 x3.toNatClampNeg) → R44 x3 M) ∧ (¬ (M.1 12 a1.toNatClampNeg) < (M.1 17 x3.toNatClampNeg) → vp_in x3 1024 ∧ (¬ (M.1 18 x3.toNatClampNeg) = 0 → R44 x3 M) ∧ ((M.1 18 x3.toNatClampNeg) = 0 → vp_in (a2 ^^^ x3) 1024 ∧ ((M.1 20 (a2 ^^^ x3).toNatClampNeg) ≤ a1 → R44 x3 M) ∧ (¬ (M.1 20 (a2 ^^^ x3).toNatClampNeg) ≤ a1 → post x3 M))))
def qX1_greatestOn_b44 (a1 : Int32) (a2 : Int32) (post : Int32 → Mem → Prop) (R2 : Int32 → Mem → Prop) (R44 : Int32 → Mem → Prop) (x3 : Int32) (M : Mem) : Prop :=
  ∀ v9 : Int32, v9 = ((x3 - (1 : Int32)) &&& a2) → R2 v9 M
def qX1_greatestOn (a1 : Int32) (a2 : Int32) (M : Mem) (post : Int32 → Mem → Prop) : Prop :=
  ∀ (R2 : Int32 → Mem → Prop) (R44 : Int32 → Mem → Prop), (∀ x3 M, qX1_greatestOn_b2 a1 a2 post R2 R44 x3 M → R2 x3 M) → (∀ x3 M, qX1_greatestOn_b44 a1 a2 post R2 R44 x3 M → R44 x3 M) → R2 a2 M
def qX1_findWith_b2 (a1 : Int32) (a2 : Int32) (post : Mem → Prop) (R2 : Int32 → Mem → Prop) (x3 : Int32) (M : Mem) : Prop :=
  (((1 : Int32) <<< ((M.1 11 1) &&& 31)) ≤ x3 → post M) ∧ (¬ ((1 : Int32) <<< ((M.1 11 1) &&& 31)) ≤ x3 → vp_in x3 1024 ∧ (¬ (M.1 20 x3.toNatClampNeg) = (-1 : Int32) → ∀ v4 : Int32, v4 = x3 + 1 → R2 v4 M) ∧ ((M.1 20 x3.toNatClampNeg) = (-1 : Int32) → vp_in x3 1024 ∧ ((M.1 19 x3.toNatClampNeg) = 0 → ∀ v7 : Int32, v7 = x3 + 1 → R2 v7 M) ∧ (¬ (M.1 19 x3.toNatClampNeg) = 0 → vp_in x3 1024 ∧ (a2 < (M.1 17 x3.toNatClampNeg) → ∀ v10 : Int32, v10 = x3 + 1 → R2 v10 M) ∧ (¬ a2 < (M.1 17 x3.toNatClampNeg) → qX1_greatestOn a1 x3 M (fun r11 M12 => (r11 ≤ 0 → ∀ v14 : Int32, v14 = x3 + 1 → R2 v14 M12) ∧ (¬ r11 ≤ 0 → vp_in x3 1024 ∧ ∀ M16 : Mem, M16 = sA M12 20 x3.toNatClampNeg a1 → ∀ v17 : Int32, v17 = x3 + 1 → R2 v17 M16))))))
def qX1_findWith (a1 : Int32) (a2 : Int32) (M : Mem) (post : Mem → Prop) : Prop :=
  ∀ (R2 : Int32 → Mem → Prop), (∀ x3 M, qX1_findWith_b2 a1 a2 post R2 x3 M → R2 x3 M) → R2 (1 : Int32) M
def qX1_findLatest_b39 (a1 : Int32) (post : Mem → Prop) (R39 : Int32 → Int32 → Mem → Prop) (x2 : Int32) (x3 : Int32) (M : Mem) : Prop :=
  (x3 < 0 → post M) ∧ (¬ x3 < 0 → qX1_has a1 x3 M (fun r9 M10 => (r9 = 0 → ∀ v12 : Int32, v12 = x3 + (-1) → R39 x2 v12 M10) ∧ (¬ r9 = 0 → vp_in x3 12 ∧ ∀ v14 : Int32, v14 = (x2 + (M10.1 12 x3.toNatClampNeg)) → qX1_findWith x3 v14 M10 (fun M16 => ∀ v17 : Int32, v17 = x3 + (-1) → R39 v14 v17 M16))))
def qX1_findLatest (a1 : Int32) (M : Mem) (post : Mem → Prop) : Prop :=
  ∀ (R39 : Int32 → Int32 → Mem → Prop), (∀ x2 x3 M, qX1_findLatest_b39 a1 post R39 x2 x3 M → R39 x2 x3 M) → (¬ (M.1 11 12) = a1 → ∀ M2 : Mem, M2 = sA M 11 12 a1 → qJ7_fill_53178 20 1024 (-1 : Int32) M2 (fun M4 => vp_in (0 : Int32) 1024 ∧ ∀ M6 : Mem, M6 = sA M4 20 (0 : Int32).toNatClampNeg (12 : Int32) → ∀ v7 : Int32, v7 = ((M6.1 11 0) - (1 : Int32)) → R39 (0 : Int32) v7 M6)) ∧ ((M.1 11 12) = a1 → post M)
def qX1_holds (a1 : Int32) (a2 : Int32) (M : Mem) (post : Int32 → Mem → Prop) : Prop :=
  qX1_findLatest a2 M (fun M2 => vp_in a1 24 ∧ vp_in (M2.1 16 a1.toNatClampNeg) 1024 ∧ ((M2.1 20 (M2.1 16 a1.toNatClampNeg).toNatClampNeg) = (-1 : Int32) → post (0 : Int32) M2) ∧ (¬ (M2.1 20 (M2.1 16 a1.toNatClampNeg).toNatClampNeg) = (-1 : Int32) → post (1 : Int32) M2))
def qX6_fits (a1 : Int32) (a2 : Int32) (M : Mem) (post : Int32 → Mem → Prop) : Prop :=
  qX6_isHour a1 M (fun r1 M2 => (r1 = 0 → qX6_deny (1 : Int32) M2 (fun r4 M5 => post r4 M5)) ∧ (¬ r1 = 0 → qX1_isFall a2 M2 (fun r6 M7 => (¬ r6 = 0 → qX1_standing a2 M7 (fun r9 M10 => qX1_holds a1 r9 M10 (fun r11 M12 => (r11 = 0 → qX6_answer (0 : Int32) M12 (fun r14 M15 => post r14 M15)) ∧ (¬ r11 = 0 → qX6_answer (1 : Int32) M12 (fun r16 M17 => post r16 M17))))) ∧ (r6 = 0 → qX6_deny (1 : Int32) M7 (fun r18 M19 => post r18 M19)))))
def qX1_isAskOf (a1 : Int32) (a2 : Int32) (M : Mem) (post : Int32 → Mem → Prop) : Prop :=
  vp_in a2 24 ∧ qX1_has (M.1 16 a2.toNatClampNeg) a1 M (fun r2 M3 => zb r2 ∧ post r2 M3)
def qX1_layingOf_b16 (a1 : Int32) (a2 : Int32) (a3 : Int32) (post : Int32 → Mem → Prop) (R16 : Int32 → Int32 → Mem → Prop) (x4 : Int32) (x5 : Int32) (M : Mem) : Prop :=
  ((M.1 11 0) ≤ x5 → post (-1 : Int32) M) ∧ (¬ (M.1 11 0) ≤ x5 → qX1_has a2 x5 M (fun r6 M7 => (r6 = 0 → ∀ v9 : Int32, v9 = x5 + 1 → R16 x4 v9 M7) ∧ (¬ r6 = 0 → qX1_greatestOn x5 x4 M7 (fun r10 M11 => qX1_has r10 a3 M11 (fun r12 M13 => (r12 = 0 → ∀ v15 : Int32, v15 = (x4 ^^^ r10) → ∀ v16 : Int32, v16 = x5 + 1 → R16 v15 v16 M13) ∧ (¬ r12 = 0 → post x5 M13))))))
def qX1_layingOf (a1 : Int32) (a2 : Int32) (a3 : Int32) (M : Mem) (post : Int32 → Mem → Prop) : Prop :=
  ∀ (R16 : Int32 → Int32 → Mem → Prop), (∀ x4 x5 M, qX1_layingOf_b16 a1 a2 a3 post R16 x4 x5 M → R16 x4 x5 M) → qX1_findLatest a2 M (fun M2 => vp_in a1 24 ∧ ∀ v4 : Int32, v4 = (M2.1 16 a1.toNatClampNeg) → R16 v4 (0 : Int32) M2)
def qX6_on (a1 : Int32) (a2 : Int32) (a3 : Int32) (M : Mem) (post : Int32 → Mem → Prop) : Prop :=
  qX6_isHour a1 M (fun r1 M2 => (r1 = 0 → qX6_deny (1 : Int32) M2 (fun r4 M5 => post r4 M5)) ∧ (¬ r1 = 0 → qX1_isFall a2 M2 (fun r6 M7 => (r6 = 0 → qX6_deny (1 : Int32) M7 (fun r9 M10 => post r9 M10)) ∧ (¬ r6 = 0 → qX1_hasAsk a3 M7 (fun r11 M12 => (r11 = 0 → qX6_deny (1 : Int32) M12 (fun r14 M15 => post r14 M15)) ∧ (¬ r11 = 0 → qX1_isAskOf a3 a1 M12 (fun r16 M17 => (¬ r16 = 0 → qX1_standing a2 M17 (fun r19 M20 => qX1_holds a1 r19 M20 (fun r21 M22 => (¬ r21 = 0 → qX1_standing a2 M22 (fun r24 M25 => qX1_layingOf a1 r24 a3 M25 (fun r26 M27 => qX6_answer r26 M27 (fun r28 M29 => post r28 M29)))) ∧ (r21 = 0 → qX6_deny (6 : Int32) M22 (fun r30 M31 => post r30 M31))))) ∧ (r16 = 0 → qX6_deny (1 : Int32) M17 (fun r32 M33 => post r32 M33)))))))))
def qX1_lacking_b18 (a1 : Int32) (a2 : Int32) (post : Int32 → Mem → Prop) (R18 : Int32 → Int32 → Int32 → Mem → Prop) (x3 : Int32) (x4 : Int32) (x5 : Int32) (M : Mem) : Prop :=
  (x5 ≤ 0 → vp_in x3 1024 ∧ post ((M.1 17 x3.toNatClampNeg) - x4) M) ∧ (¬ x5 ≤ 0 → vp_in x5 1024 ∧ ((M.1 20 x5.toNatClampNeg) = (-1 : Int32) → ∀ v9 : Int32, v9 = ((x5 - (1 : Int32)) &&& x3) → R18 x3 x4 v9 M) ∧ (¬ (M.1 20 x5.toNatClampNeg) = (-1 : Int32) → vp_in x5 1024 ∧ ∀ v11 : Int32, v11 = (jmax x4 (M.1 17 x5.toNatClampNeg)) → ∀ v12 : Int32, v12 = ((x5 - (1 : Int32)) &&& x3) → R18 x3 v11 v12 M))
def qX1_lacking (a1 : Int32) (a2 : Int32) (M : Mem) (post : Int32 → Mem → Prop) : Prop :=
  ∀ (R18 : Int32 → Int32 → Int32 → Mem → Prop), (∀ x3 x4 x5 M, qX1_lacking_b18 a1 a2 post R18 x3 x4 x5 M → R18 x3 x4 x5 M) → qX1_findLatest a2 M (fun M2 => vp_in a1 24 ∧ ∀ v4 : Int32, v4 = (M2.1 16 a1.toNatClampNeg) → R18 v4 (0 : Int32) v4 M2)
def qX6_lack (a1 : Int32) (a2 : Int32) (M : Mem) (post : Int32 → Mem → Prop) : Prop :=
  qX6_isHour a1 M (fun r1 M2 => (r1 = 0 → qX6_deny (1 : Int32) M2 (fun r4 M5 => post r4 M5)) ∧ (¬ r1 = 0 → qX1_isFall a2 M2 (fun r6 M7 => (¬ r6 = 0 → qX1_standing a2 M7 (fun r9 M10 => qX1_lacking a1 r9 M10 (fun r11 M12 => qX6_answer r11 M12 (fun r13 M14 => post r13 M14)))) ∧ (r6 = 0 → qX6_deny (1 : Int32) M7 (fun r15 M16 => post r15 M16)))))
def qX1_leftOver (a1 : Int32) (a2 : Int32) (M : Mem) (post : Int32 → Mem → Prop) : Prop :=
  qX1_findLatest a2 M (fun M2 => vp_in a1 24 ∧ ∀ v4 : Int32, v4 = (M2.1 16 a1.toNatClampNeg) → vp_in v4 1024 ∧ ((M2.1 20 v4.toNatClampNeg) = (-1 : Int32) → post (0 : Int32) M2) ∧ (¬ (M2.1 20 v4.toNatClampNeg) = (-1 : Int32) → qX1_sizeOf a2 M2 (fun r7 M8 => vp_in v4 1024 ∧ post (r7 - (M8.1 17 v4.toNatClampNeg)) M8)))
def qX6_left (a1 : Int32) (a2 : Int32) (M : Mem) (post : Int32 → Mem → Prop) : Prop :=
  qX6_isHour a1 M (fun r1 M2 => (r1 = 0 → qX6_deny (1 : Int32) M2 (fun r4 M5 => post r4 M5)) ∧ (¬ r1 = 0 → qX1_isFall a2 M2 (fun r6 M7 => (¬ r6 = 0 → qX1_standing a2 M7 (fun r9 M10 => qX1_leftOver a1 r9 M10 (fun r11 M12 => qX6_answer r11 M12 (fun r13 M14 => post r13 M14)))) ∧ (r6 = 0 → qX6_deny (1 : Int32) M7 (fun r15 M16 => post r15 M16)))))
def qX1_isLookedAt (a1 : Int32) (a2 : Int32) (M : Mem) (post : Int32 → Mem → Prop) : Prop :=
  (a1 ≤ (12 : Int32) → (a1 = 0 → post (1 : Int32) M) ∧ (¬ a1 = 0 → (a2 ≤ 0 → post (0 : Int32) M) ∧ (¬ a2 ≤ 0 → ((M.1 11 0) < a1 → post (0 : Int32) M) ∧ (¬ (M.1 11 0) < a1 → post (1 : Int32) M)))) ∧ (¬ a1 ≤ (12 : Int32) → (¬ a2 = (2 : Int32) → post (0 : Int32) M) ∧ (a2 = (2 : Int32) → post (1 : Int32) M))
def qX1_firstUnfitHour_b2 (a1 : Int32) (a2 : Int32) (post : Int32 → Mem → Prop) (R2 : Int32 → Mem → Prop) (x3 : Int32) (M : Mem) : Prop :=
  (a2 ≤ x3 → post a2 M) ∧ (¬ a2 ≤ x3 → qX1_holds x3 a1 M (fun r2 M3 => (¬ r2 = 0 → ∀ v5 : Int32, v5 = x3 + 1 → R2 v5 M3) ∧ (r2 = 0 → post x3 M3)))
def qX1_firstUnfitHour (a1 : Int32) (a2 : Int32) (M : Mem) (post : Int32 → Mem → Prop) : Prop :=
  ∀ (R2 : Int32 → Mem → Prop), (∀ x3 M, qX1_firstUnfitHour_b2 a1 a2 post R2 x3 M → R2 x3 M) → R2 (0 : Int32) M
def qX1_firstUnfit_b8 (a1 : Int32) (post : Int32 → Mem → Prop) (R8 : Int32 → Int32 → Int32 → Mem → Prop) (x2 : Int32) (x3 : Int32) (x4 : Int32) (M : Mem) : Prop :=
  ((17 : Int32) ≤ x4 → (¬ x2 = (24 : Int32) → post (((100 : Int32) * x2) + x3) M) ∧ (x2 = (24 : Int32) → post (-2 : Int32) M)) ∧ (¬ (17 : Int32) ≤ x4 → (x2 ≤ 0 → (¬ x2 = (24 : Int32) → post (((100 : Int32) * x2) + x3) M) ∧ (x2 = (24 : Int32) → post (-2 : Int32) M)) ∧ (¬ x2 ≤ 0 → qX1_isLookedAt x4 a1 M (fun r5 M6 => (r5 = 0 → ∀ v8 : Int32, v8 = x4 + 1 → R8 x2 x3 v8 M6) ∧ (¬ r5 = 0 → qX1_standing x4 M6 (fun r9 M10 => qX1_firstUnfitHour r9 x2 M10 (fun r11 M12 => (x2 ≤ r11 → ∀ v14 : Int32, v14 = x4 + 1 → R8 r11 x3 v14 M12) ∧ (¬ x2 ≤ r11 → ∀ v15 : Int32, v15 = x4 + 1 → R8 r11 x4 v15 M12)))))))
def qX1_firstUnfit (a1 : Int32) (M : Mem) (post : Int32 → Mem → Prop) : Prop :=
  ∀ (R8 : Int32 → Int32 → Int32 → Mem → Prop), (∀ x2 x3 x4 M, qX1_firstUnfit_b8 a1 post R8 x2 x3 x4 M → R8 x2 x3 x4 M) → R8 (24 : Int32) (0 : Int32) (0 : Int32) M
def qX6_enough (a1 : Int32) (M : Mem) (post : Int32 → Mem → Prop) : Prop :=
  qX6_within (a1.toInt64) (0 : Int32) (2 : Int32) M (fun r1 M2 => (¬ r1 = 0 → qX1_firstUnfit a1 M2 (fun r4 M5 => qX6_answer r4 M5 (fun r6 M7 => post r6 M7))) ∧ (r1 = 0 → qX6_deny (1 : Int32) M2 (fun r8 M9 => post r8 M9)))
def qX3_addBatch (a1 : Int32) (a2 : Int32) (a3 : Int32) (a4 : Int32) (M : Mem) (post : Int32 → Mem → Prop) : Prop :=
  ∀ M1 : Mem, M1 = sA M 21 0 ((M.1 21 0) + (1 : Int32)) → ∀ v2 : Int32, v2 = (M.1 21 0) → vp_in v2 8 ∧ ∀ M4 : Mem, M4 = sA M1 31 v2.toNatClampNeg a1 → vp_in v2 8 ∧ ∀ M6 : Mem, M6 = sA M4 32 v2.toNatClampNeg a2 → vp_in v2 8 ∧ ∀ M8 : Mem, M8 = sA M6 33 v2.toNatClampNeg a3 → vp_in v2 8 ∧ ∀ M10 : Mem, M10 = sA M8 34 v2.toNatClampNeg a4 → qX3_forget M10 (fun M12 => post v2 M12)
def qX6_batch (a1 : Int32) (a2 : Int32) (a3 : Int32) (a4 : Int32) (M : Mem) (post : Int32 → Mem → Prop) : Prop :=
  qX6_within (a1.toInt64) (1 : Int32) (10000 : Int32) M (fun r1 M2 => (r1 = 0 → qX6_deny (1 : Int32) M2 (fun r4 M5 => post r4 M5)) ∧ (¬ r1 = 0 → qX6_isHour a2 M2 (fun r6 M7 => (r6 = 0 → qX6_deny (1 : Int32) M7 (fun r9 M10 => post r9 M10)) ∧ (¬ r6 = 0 → qX6_within (a3.toInt64) (a2 + (1 : Int32)) (24 : Int32) M7 (fun r11 M12 => (r11 = 0 → qX6_deny (1 : Int32) M12 (fun r14 M15 => post r14 M15)) ∧ (¬ r11 = 0 → qX6_within (a4.toInt64) (1 : Int32) (1000 : Int32) M12 (fun r16 M17 => (¬ r16 = 0 → (¬ (M17.1 21 0) = (8 : Int32) → qX3_addBatch a1 a2 a3 a4 M17 (fun r20 M21 => qX6_answer r20 M21 (fun r22 M23 => post r22 M23))) ∧ ((M17.1 21 0) = (8 : Int32) → qX6_deny (4 : Int32) M17 (fun r24 M25 => post r24 M25))) ∧ (r16 = 0 → qX6_deny (1 : Int32) M17 (fun r26 M27 => post r26 M27)))))))))
def qX0_empty_b2  (post : Mem → Prop) (R2 : Int32 → Mem → Prop) (x1 : Int32) (M : Mem) : Prop :=
  ((M.1 35 0) ≤ x1 → post M) ∧ (¬ (M.1 35 0) ≤ x1 → vp_in x1 34 ∧ qJ7_fill_53178 (37 + x1.toNatClampNeg) 34 (0 : Int32) M (fun M4 => ∀ v5 : Int32, v5 = x1 + 1 → R2 v5 M4))
def qX0_empty  (M : Mem) (post : Mem → Prop) : Prop :=
  ∀ (R2 : Int32 → Mem → Prop), (∀ x1 M, qX0_empty_b2 post R2 x1 M → R2 x1 M) → R2 (0 : Int32) M
def qX0_pipe (a1 : Int32) (a2 : Int32) (a3 : Int32) (M : Mem) (post : Mem → Prop) : Prop :=
  vp_in a1 34 ∧ vp_in a2 34 ∧ ∀ M3 : Mem, M3 = sA M (37 + a1.toNatClampNeg) a2.toNatClampNeg a3 → post M3
def qX3_layPipes_b12 (a2 : Int32) (post : Int32 → Mem → Prop) (R12 : Int32 → Int32 → Mem → Prop) (R58 : Int32 → Int32 → Int32 → Mem → Prop) (R106 : Int32 → Int32 → Mem → Prop) (x3 : Int32) (x4 : Int32) (M : Mem) : Prop :=
  ((M.1 21 0) ≤ x4 → R106 x3 (0 : Int32) M) ∧ (¬ (M.1 21 0) ≤ x4 → vp_in x4 8 ∧ ∀ v5 : Int32, v5 = (x3 + (M.1 31 x4.toNatClampNeg)) → vp_in x4 8 ∧ qX0_pipe (32 : Int32) x4 (M.1 31 x4.toNatClampNeg) M (fun M8 => vp_in x4 8 ∧ ∀ v10 : Int32, v10 = (M8.1 32 x4.toNatClampNeg) → R58 v5 x4 v10 M8))
def qX3_layPipes_b58 (a2 : Int32) (post : Int32 → Mem → Prop) (R12 : Int32 → Int32 → Mem → Prop) (R58 : Int32 → Int32 → Int32 → Mem → Prop) (R106 : Int32 → Int32 → Mem → Prop) (x3 : Int32) (x4 : Int32) (x5 : Int32) (M : Mem) : Prop :=
  vp_in x4 8 ∧ ((M.1 33 x4.toNatClampNeg) ≤ x5 → ∀ v13 : Int32, v13 = x4 + 1 → R12 x3 v13 M) ∧ (¬ (M.1 33 x4.toNatClampNeg) ≤ x5 → vp_in x4 8 ∧ qX0_pipe x4 ((8 : Int32) + x5) (M.1 34 x4.toNatClampNeg) M (fun M16 => ∀ v17 : Int32, v17 = x5 + 1 → R58 x3 x4 v17 M16))
def qX3_layPipes_b106 (a2 : Int32) (post : Int32 → Mem → Prop) (R12 : Int32 → Int32 → Mem → Prop) (R58 : Int32 → Int32 → Int32 → Mem → Prop) (R106 : Int32 → Int32 → Mem → Prop) (x3 : Int32) (x4 : Int32) (M : Mem) : Prop :=
  ((24 : Int32) ≤ x4 → post x3 M) ∧ (¬ (24 : Int32) ≤ x4 → qX1_leftOver x4 a2 M (fun r19 M20 => qX0_pipe ((8 : Int32) + x4) (33 : Int32) r19 M20 (fun M22 => ∀ v23 : Int32, v23 = x4 + 1 → R106 x3 v23 M22)))
def qX3_layPipes (a2 : Int32) (M : Mem) (post : Int32 → Mem → Prop) : Prop :=
  ∀ (R12 : Int32 → Int32 → Mem → Prop) (R58 : Int32 → Int32 → Int32 → Mem → Prop) (R106 : Int32 → Int32 → Mem → Prop), (∀ x3 x4 M, qX3_layPipes_b12 a2 post R12 R58 R106 x3 x4 M → R12 x3 x4 M) → (∀ x3 x4 x5 M, qX3_layPipes_b58 a2 post R12 R58 R106 x3 x4 x5 M → R58 x3 x4 x5 M) → (∀ x3 x4 M, qX3_layPipes_b106 a2 post R12 R58 R106 x3 x4 M → R106 x3 x4 M) → qX0_empty M (fun M2 => R12 (0 : Int32) (0 : Int32) M2)
def qX0_findWay_b27 (a1 : Int32) (a2 : Int32) (post : Int32 → Mem → Prop) (R27 : Int32 → Int32 → Mem → Prop) (R54 : Int32 → Int32 → Int32 → Int32 → Mem → Prop) (x3 : Int32) (x4 : Int32) (M : Mem) : Prop :=
  (x3 ≤ x4 → post (0 : Int32) M) ∧ (¬ x3 ≤ x4 → ((M.1 35 0) ≤ x4 → post (0 : Int32) M) ∧ (¬ (M.1 35 0) ≤ x4 → vp_in x4 34 ∧ ∀ v10 : Int32, v10 = (M.1 72 x4.toNatClampNeg) → R54 x3 x4 v10 (0 : Int32) M))
def qX0_findWay_b54 (a1 : Int32) (a2 : Int32) (post : Int32 → Mem → Prop) (R27 : Int32 → Int32 → Mem → Prop) (R54 : Int32 → Int32 → Int32 → Int32 → Mem → Prop) (x3 : Int32) (x4 : Int32) (x5 : Int32) (x6 : Int32) (M : Mem) : Prop :=
  ((M.1 35 0) ≤ x6 → vp_in a2 34 ∧ ((M.1 71 a2.toNatClampNeg) = (-1 : Int32) → ∀ v14 : Int32, v14 = x4 + 1 → R27 x3 v14 M) ∧ (¬ (M.1 71 a2.toNatClampNeg) = (-1 : Int32) → post (1 : Int32) M)) ∧ (¬ (M.1 35 0) ≤ x6 → vp_in x5 34 ∧ vp_in x6 34 ∧ ((M.1 (37 + x5.toNatClampNeg) x6.toNatClampNeg) ≤ 0 → ∀ v18 : Int32, v18 = x6 + 1 → R54 x3 x4 x5 v18 M) ∧ (¬ (M.1 (37 + x5.toNatClampNeg) x6.toNatClampNeg) ≤ 0 → vp_in x6 34 ∧ (¬ (M.1 71 x6.toNatClampNeg) = (-1 : Int32) → ∀ v21 : Int32, v21 = x6 + 1 → R54 x3 x4 x5 v21 M) ∧ ((M.1 71 x6.toNatClampNeg) = (-1 : Int32) → vp_in x6 34 ∧ ∀ M23 : Mem, M23 = sA M 71 x6.toNatClampNeg x5 → ∀ v24 : Int32, v24 = x3 + 1 → vp_in x3 34 ∧ ∀ M26 : Mem, M26 = sA M23 72 x3.toNatClampNeg x6 → ∀ v27 : Int32, v27 = x6 + 1 → R54 v24 x4 x5 v27 M26)))
def qX0_findWay (a1 : Int32) (a2 : Int32) (M : Mem) (post : Int32 → Mem → Prop) : Prop :=
  ∀ (R27 : Int32 → Int32 → Mem → Prop) (R54 : Int32 → Int32 → Int32 → Int32 → Mem → Prop), (∀ x3 x4 M, qX0_findWay_b27 a1 a2 post R27 R54 x3 x4 M → R27 x3 x4 M) → (∀ x3 x4 x5 x6 M, qX0_findWay_b54 a1 a2 post R27 R54 x3 x4 x5 x6 M → R54 x3 x4 x5 x6 M) → qJ7_fill_53178 71 34 (-1 : Int32) M (fun M2 => vp_in a1 34 ∧ ∀ M4 : Mem, M4 = sA M2 71 a1.toNatClampNeg a1 → vp_in (0 : Int32) 34 ∧ ∀ M6 : Mem, M6 = sA M4 72 (0 : Int32).toNatClampNeg a1 → R27 (1 : Int32) (0 : Int32) M6)
def qX0_send_b9 (a1 : Int32) (a2 : Int32) (a3 : Int32) (post : Int32 → Mem → Prop) (R9 : Int32 → Int32 → Int32 → Mem → Prop) (R67 : Int32 → Int32 → Int32 → Mem → Prop) (x4 : Int32) (x5 : Int32) (x6 : Int32) (M : Mem) : Prop :=
  ((M.1 35 0) ≤ x6 → R67 x4 a2 (0 : Int32) M) ∧ (¬ (M.1 35 0) ≤ x6 → (x5 = a1 → R67 x4 a2 (0 : Int32) M) ∧ (¬ x5 = a1 → vp_in x5 34 ∧ vp_in (M.1 71 x5.toNatClampNeg) 34 ∧ vp_in x5 34 ∧ ∀ v6 : Int32, v6 = (jmin x4 (M.1 (37 + (M.1 71 x5.toNatClampNeg).toNatClampNeg) x5.toNatClampNeg)) → vp_in x5 34 ∧ ∀ v8 : Int32, v8 = (M.1 71 x5.toNatClampNeg) → ∀ v9 : Int32, v9 = x6 + 1 → R9 v6 v8 v9 M))
def qX0_send_b67 (a1 : Int32) (a2 : Int32) (a3 : Int32) (post : Int32 → Mem → Prop) (R9 : Int32 → Int32 → Int32 → Mem → Prop) (R67 : Int32 → Int32 → Int32 → Mem → Prop) (x4 : Int32) (x5 : Int32) (x6 : Int32) (M : Mem) : Prop :=
  ((M.1 35 0) ≤ x6 → post x4 M) ∧ (¬ (M.1 35 0) ≤ x6 → (x5 = a1 → post x4 M) ∧ (¬ x5 = a1 → vp_in x5 34 ∧ vp_in (M.1 71 x5.toNatClampNeg) 34 ∧ vp_in x5 34 ∧ vp_in x5 34 ∧ ∀ M16 : Mem, M16 = sA M (37 + (M.1 71 x5.toNatClampNeg).toNatClampNeg) x5.toNatClampNeg ((M.1 (37 + (M.1 71 x5.toNatClampNeg).toNatClampNeg) x5.toNatClampNeg) - x4) → vp_in x5 34 ∧ vp_in x5 34 ∧ vp_in (M16.1 71 x5.toNatClampNeg) 34 ∧ vp_in (M16.1 71 x5.toNatClampNeg) 34 ∧ ∀ M21 : Mem, M21 = sA M16 (37 + x5.toNatClampNeg) (M16.1 71 x5.toNatClampNeg).toNatClampNeg ((M16.1 (37 + x5.toNatClampNeg) (M16.1 71 x5.toNatClampNeg).toNatClampNeg) + x4) → vp_in x5 34 ∧ ∀ v23 : Int32, v23 = (M21.1 71 x5.toNatClampNeg) → ∀ v24 : Int32, v24 = x6 + 1 → R67 x4 v23 v24 M21))
def qX0_send (a1 : Int32) (a2 : Int32) (a3 : Int32) (M : Mem) (post : Int32 → Mem → Prop) : Prop :=
  ∀ (R9 : Int32 → Int32 → Int32 → Mem → Prop) (R67 : Int32 → Int32 → Int32 → Mem → Prop), (∀ x4 x5 x6 M, qX0_send_b9 a1 a2 a3 post R9 R67 x4 x5 x6 M → R9 x4 x5 x6 M) → (∀ x4 x5 x6 M, qX0_send_b67 a1 a2 a3 post R9 R67 x4 x5 x6 M → R67 x4 x5 x6 M) → R9 a3 a2 (0 : Int32) M
def qX0_push_b6 (a1 : Int32) (a2 : Int32) (a3 : Int32) (post : Int32 → Mem → Prop) (R6 : Int32 → Int32 → Mem → Prop) (x4 : Int32) (x5 : Int32) (M : Mem) : Prop :=
  ((1000000 : Int32) ≤ x5 → post x4 M) ∧ (¬ (1000000 : Int32) ≤ x5 → (a3 ≤ x4 → post x4 M) ∧ (¬ a3 ≤ x4 → qX0_findWay a1 a2 M (fun r3 M4 => (r3 = 0 → post x4 M4) ∧ (¬ r3 = 0 → qX0_send a1 a2 (a3 - x4) M4 (fun r6 M7 => ∀ v8 : Int32, v8 = (x4 + r6) → ∀ v9 : Int32, v9 = x5 + 1 → R6 v8 v9 M7)))))
def qX0_push (a1 : Int32) (a2 : Int32) (a3 : Int32) (M : Mem) (post : Int32 → Mem → Prop) : Prop :=
  ∀ (R6 : Int32 → Int32 → Mem → Prop), (∀ x4 x5 M, qX0_push_b6 a1 a2 a3 post R6 x4 x5 M → R6 x4 x5 M) → R6 (0 : Int32) (0 : Int32) M
def qX0_settle (a1 : Int32) (a2 : Int32) (M : Mem) (post : Int32 → Mem → Prop) : Prop :=
  vp_in a1 34 ∧ vp_in a2 34 ∧ ∀ v3 : Int32, v3 = (M.1 (37 + a1.toNatClampNeg) a2.toNatClampNeg) → vp_in a2 34 ∧ vp_in a1 34 ∧ ∀ v6 : Int32, v6 = (M.1 (37 + a2.toNatClampNeg) a1.toNatClampNeg) → vp_in a1 34 ∧ vp_in a2 34 ∧ ∀ M9 : Mem, M9 = sA M (37 + a1.toNatClampNeg) a2.toNatClampNeg (0 : Int32) → vp_in a2 34 ∧ vp_in a1 34 ∧ ∀ M12 : Mem, M12 = sA M9 (37 + a2.toNatClampNeg) a1.toNatClampNeg (0 : Int32) → qX0_push a2 a1 v3 M12 (fun r13 M14 => post (v6 + r13) M14)
def qX3_settleParts_b2  (post : Mem → Prop) (R2 : Int32 → Mem → Prop) (R17 : Int32 → Int32 → Mem → Prop) (x1 : Int32) (M : Mem) : Prop :=
  ((M.1 21 0) ≤ x1 → post M) ∧ (¬ (M.1 21 0) ≤ x1 → vp_in x1 8 ∧ ∀ v3 : Int32, v3 = (M.1 32 x1.toNatClampNeg) → R17 x1 v3 M)
def qX3_settleParts_b17  (post : Mem → Prop) (R2 : Int32 → Mem → Prop) (R17 : Int32 → Int32 → Mem → Prop) (x1 : Int32) (x2 : Int32) (M : Mem) : Prop :=
  vp_in x1 8 ∧ ((M.1 33 x1.toNatClampNeg) ≤ x2 → ∀ v6 : Int32, v6 = x1 + 1 → R2 v6 M) ∧ (¬ (M.1 33 x1.toNatClampNeg) ≤ x2 → vp_in x1 8 ∧ qX0_settle x1 ((8 : Int32) + x2) M (fun r8 M9 => vp_in x2 24 ∧ ∀ M11 : Mem, M11 = sA M9 (23 + x1.toNatClampNeg) x2.toNatClampNeg r8 → ∀ v12 : Int32, v12 = x2 + 1 → R17 x1 v12 M11))
def qX3_settleParts  (M : Mem) (post : Mem → Prop) : Prop :=
  ∀ (R2 : Int32 → Mem → Prop) (R17 : Int32 → Int32 → Mem → Prop), (∀ x1 M, qX3_settleParts_b2 post R2 R17 x1 M → R2 x1 M) → (∀ x1 x2 M, qX3_settleParts_b17 post R2 R17 x1 x2 M → R17 x1 x2 M) → R2 (0 : Int32) M
def qX3_lay (a2 : Int32) (M : Mem) (post : Mem → Prop) : Prop :=
  (¬ (M.1 21 8) = a2 → ∀ M2 : Mem, M2 = sA M 21 8 a2 → qX3_layPipes a2 M2 (fun r3 M4 => ∀ M5 : Mem, M5 = sA M4 21 1 r3 → qX0_push (32 : Int32) (33 : Int32) (M5.1 21 1) M5 (fun r6 M7 => ∀ M8 : Mem, M8 = sA M7 21 1 ((M5.1 21 1) - r6) → (¬ (M8.1 21 1) = 0 → post M8) ∧ ((M8.1 21 1) = 0 → qX3_settleParts M8 (fun M11 => post M11))))) ∧ ((M.1 21 8) = a2 → post M)
def qX6_rest (a1 : Int32) (M : Mem) (post : Int32 → Mem → Prop) : Prop :=
  qX1_isFall a1 M (fun r1 M2 => (¬ r1 = 0 → qX1_standing a1 M2 (fun r4 M5 => qX3_lay r4 M5 (fun M7 => qX6_answer (M7.1 21 1) M7 (fun r8 M9 => post r8 M9)))) ∧ (r1 = 0 → qX6_deny (1 : Int32) M2 (fun r10 M11 => post r10 M11)))
def qX3_hasBatch (a1 : Int32) (M : Mem) (post : Int32 → Mem → Prop) : Prop :=
  qX6_within (a1.toInt64) (0 : Int32) ((M.1 21 0) - (1 : Int32)) M (fun r1 M2 => zb r1 ∧ post r1 M2)
def qX6_part (a1 : Int32) (a2 : Int32) (a3 : Int32) (M : Mem) (post : Int32 → Mem → Prop) : Prop :=
  qX1_isFall a1 M (fun r1 M2 => (r1 = 0 → qX6_deny (1 : Int32) M2 (fun r4 M5 => post r4 M5)) ∧ (¬ r1 = 0 → qX3_hasBatch a2 M2 (fun r6 M7 => (r6 = 0 → qX6_deny (1 : Int32) M7 (fun r9 M10 => post r9 M10)) ∧ (¬ r6 = 0 → qX6_isHour a3 M7 (fun r11 M12 => (¬ r11 = 0 → qX1_standing a1 M12 (fun r14 M15 => qX3_lay r14 M15 (fun M17 => ((M17.1 21 1) ≤ 0 → vp_in a2 8 ∧ vp_in a3 24 ∧ qX6_answer (M17.1 (23 + a2.toNatClampNeg) a3.toNatClampNeg) M17 (fun r21 M22 => post r21 M22)) ∧ (¬ (M17.1 21 1) ≤ 0 → qX6_deny (7 : Int32) M17 (fun r23 M24 => post r23 M24))))) ∧ (r11 = 0 → qX6_deny (1 : Int32) M12 (fun r25 M26 => post r25 M26)))))))
def qX6_isLine (a0 : Int32) (a1 : Int32) (a2 : Int32) (M : Mem) (post : Int32 → Mem → Prop) : Prop :=
  qX4_isNumber a0 M (fun r1 M2 => (r1 = 0 → post (0 : Int32) M2) ∧ (¬ r1 = 0 → qX6_within (a1.toInt64) (1 : Int32) (64 : Int32) M2 (fun r4 M5 => (r4 = 0 → post (0 : Int32) M5) ∧ (¬ r4 = 0 → qX6_within (a2.toInt64) (1 : Int32) (100 : Int32) M5 (fun r7 M8 => (r7 = 0 → post (0 : Int32) M8) ∧ (¬ r7 = 0 → post (1 : Int32) M8))))))
def qX4_whyNotFirst_b25 (a1 : Int32) (a2 : Int32) (a3 : Int32) (post : Int32 → Mem → Prop) (R25 : Int32 → Mem → Prop) (x4 : Int32) (M : Mem) : Prop :=
  (a2 ≤ x4 → post (0 : Int32) M) ∧ (¬ a2 ≤ x4 → vp_in a1 6 ∧ vp_in x4 64 ∧ qX6_within (M.2 (3 + a1.toNatClampNeg) x4.toNatClampNeg) (0 : Int32) a3 M (fun r9 M10 => (¬ r9 = 0 → ∀ v12 : Int32, v12 = x4 + 1 → R25 v12 M10) ∧ (r9 = 0 → post (1 : Int32) M10)))
def qX4_whyNotFirst (a1 : Int32) (a2 : Int32) (a3 : Int32) (M : Mem) (post : Int32 → Mem → Prop) : Prop :=
  ∀ (R25 : Int32 → Mem → Prop), (∀ x4 M, qX4_whyNotFirst_b25 a1 a2 a3 post R25 x4 M → R25 x4 M) → qX4_isMissing a1 M (fun r1 M2 => (r1 = 0 → vp_in a1 6 ∧ (a2 ≤ (M2.1 10 a1.toNatClampNeg) → R25 (0 : Int32) M2) ∧ (¬ a2 ≤ (M2.1 10 a1.toNatClampNeg) → post (3 : Int32) M2)) ∧ (¬ r1 = 0 → post (2 : Int32) M2))
def qX5_note (a1 : Int32) (M : Mem) (post : Mem → Prop) : Prop :=
  ∀ M1 : Mem, M1 = sA M 73 0 (jmax (M.1 73 0) a1) → ∀ M2 : Mem, M2 = sA M1 73 1 ((M1.1 73 1) + a1) → ∀ M3 : Mem, M3 = sA M2 73 2 ((M2.1 73 2) + (1 : Int32)) → (a1 ≤ 0 → ∀ M5 : Mem, M5 = sA M3 73 3 ((M3.1 73 3) + (0 : Int32)) → post M5) ∧ (¬ a1 ≤ 0 → ∀ M6 : Mem, M6 = sA M3 73 3 ((M3.1 73 3) + (1 : Int32)) → post M6)
def qX5_serve_b39 (a2 : Int32) (a3 : Int32) (a4 : Int32) (a5 : Int32) (post : Mem → Prop) (R39 : Int32 → Int32 → Mem → Prop) (R57 : Int32 → Int32 → Int64 → Int32 → Mem → Prop) (x6 : Int32) (x7 : Int32) (M : Mem) : Prop :=
  (a3 ≤ x7 → post M) ∧ (¬ a3 ≤ x7 → qX4_at a2 x7 M (fun r9 M10 => R57 x6 x7 r9 (0 : Int32) M10))
def qX5_serve_b57 (a2 : Int32) (a3 : Int32) (a4 : Int32) (a5 : Int32) (post : Mem → Prop) (R39 : Int32 → Int32 → Mem → Prop) (R57 : Int32 → Int32 → Int64 → Int32 → Mem → Prop) (x6 : Int32) (x7 : Int32) (x8 : Int64) (x10 : Int32) (M : Mem) : Prop :=
  (0 ≤ (lg_cmp (x10.toInt64) x8) → ∀ v12 : Int32, v12 = x7 + 1 → R39 x6 v12 M) ∧ (¬ 0 ≤ (lg_cmp (x10.toInt64) x8) → vp_in x6 20 ∧ ∀ v14 : Int32, v14 = (jmax x7 (M.1 74 x6.toNatClampNeg)) → qX5_note (v14 - x7) M (fun M16 => ∀ M17 : Mem, M17 = sA M16 73 4 (v14 + a5) → vp_in x6 20 ∧ ∀ M19 : Mem, M19 = sA M17 74 x6.toNatClampNeg (M17.1 73 4) → (a4 ≤ (x6 + (1 : Int32)) → ∀ v21 : Int32, v21 = x10 + 1 → R57 (0 : Int32) x7 x8 v21 M19) ∧ (¬ a4 ≤ (x6 + (1 : Int32)) → ∀ v22 : Int32, v22 = (x6 + (1 : Int32)) → ∀ v23 : Int32, v23 = x10 + 1 → R57 v22 x7 x8 v23 M19)))
def qX5_serve (a2 : Int32) (a3 : Int32) (a4 : Int32) (a5 : Int32) (M : Mem) (post : Mem → Prop) : Prop :=
  ∀ (R39 : Int32 → Int32 → Mem → Prop) (R57 : Int32 → Int32 → Int64 → Int32 → Mem → Prop), (∀ x6 x7 M, qX5_serve_b39 a2 a3 a4 a5 post R39 R57 x6 x7 M → R39 x6 x7 M) → (∀ x6 x7 x8 x10 M, qX5_serve_b57 a2 a3 a4 a5 post R39 R57 x6 x7 x8 x10 M → R57 x6 x7 x8 x10 M) → ∀ M1 : Mem, M1 = sA M 73 0 (0 : Int32) → ∀ M2 : Mem, M2 = sA M1 73 1 (0 : Int32) → ∀ M3 : Mem, M3 = sA M2 73 2 (0 : Int32) → ∀ M4 : Mem, M4 = sA M3 73 3 (0 : Int32) → ∀ M5 : Mem, M5 = sA M4 73 4 (0 : Int32) → qJ7_fill_53178 74 20 (0 : Int32) M5 (fun M7 => R39 (0 : Int32) (0 : Int32) M7)
def qX5_told (a1 : Int32) (M : Mem) (post : Int32 → Mem → Prop) : Prop :=
  (a1.toInt = 0 → post (M.1 73 0) M) ∧ (a1.toInt = 1 → post (M.1 73 1) M) ∧ (a1.toInt = 2 → post (M.1 73 2) M) ∧ (a1.toInt = 3 → post (M.1 73 3) M) ∧ ((a1.toInt < 0 ∨ 3 < a1.toInt) → post (M.1 73 4) M)
def qX6_line (a1 : Int32) (a2 : Int32) (a3 : Int32) (a4 : Int32) (a5 : Int32) (M : Mem) (post : Int32 → Mem → Prop) : Prop :=
  qX6_isLine a1 a2 a4 M (fun r1 M2 => (r1 = 0 → qX6_deny (1 : Int32) M2 (fun r4 M5 => post r4 M5)) ∧ (¬ r1 = 0 → qX6_within (a3.toInt64) (1 : Int32) (20 : Int32) M2 (fun r6 M7 => (r6 = 0 → qX6_deny (1 : Int32) M7 (fun r9 M10 => post r9 M10)) ∧ (¬ r6 = 0 → qX6_within (a5.toInt64) (0 : Int32) (4 : Int32) M7 (fun r11 M12 => (¬ r11 = 0 → qX4_whyNotFirst a1 a2 (100 : Int32) M12 (fun r14 M15 => (r14 = 0 → qX5_serve a1 a2 a3 a4 M15 (fun M18 => qX5_told a5 M18 (fun r19 M20 => qX6_answer r19 M20 (fun r21 M22 => post r21 M22)))) ∧ (¬ r14 = 0 → qX6_deny r14 M15 (fun r23 M24 => post r23 M24)))) ∧ (r11 = 0 → qX6_deny (1 : Int32) M12 (fun r25 M26 => post r25 M26)))))))
def qX6_hands_b56 (a1 : Int32) (a2 : Int32) (a3 : Int32) (a4 : Int32) (post : Int32 → Mem → Prop) (R56 : Int32 → Mem → Prop) (x6 : Int32) (M : Mem) : Prop :=
  ((20 : Int32) < x6 → qX6_deny (7 : Int32) M (fun r17 M18 => post r17 M18)) ∧ (¬ (20 : Int32) < x6 → qX5_serve a1 a2 x6 a3 M (fun M20 => (a4 < (M20.1 73 0) → ∀ v22 : Int32, v22 = x6 + 1 → R56 v22 M20) ∧ (¬ a4 < (M20.1 73 0) → qX6_answer x6 M20 (fun r23 M24 => post r23 M24))))
def qX6_hands (a1 : Int32) (a2 : Int32) (a3 : Int32) (a4 : Int32) (M : Mem) (post : Int32 → Mem → Prop) : Prop :=
  ∀ (R56 : Int32 → Mem → Prop), (∀ x6 M, qX6_hands_b56 a1 a2 a3 a4 post R56 x6 M → R56 x6 M) → qX6_isLine a1 a2 a3 M (fun r1 M2 => (r1 = 0 → qX6_deny (1 : Int32) M2 (fun r4 M5 => post r4 M5)) ∧ (¬ r1 = 0 → qX6_within (a4.toInt64) (0 : Int32) (10000 : Int32) M2 (fun r6 M7 => (¬ r6 = 0 → qX4_whyNotFirst a1 a2 (100 : Int32) M7 (fun r9 M10 => (r9 = 0 → R56 (1 : Int32) M10) ∧ (¬ r9 = 0 → qX6_deny r9 M10 (fun r12 M13 => post r12 M13)))) ∧ (r6 = 0 → qX6_deny (1 : Int32) M7 (fun r14 M15 => post r14 M15)))))
def qX2_want_b2 (a2 : Int32) (post : Mem → Prop) (R2 : Int32 → Mem → Prop) (x3 : Int32) (M : Mem) : Prop :=
  ((12 : Int32) ≤ x3 → ∀ M2 : Mem, M2 = sA M 75 11 (0 : Int32) → post M2) ∧ (¬ (12 : Int32) ≤ x3 → qX4_at a2 x3 M (fun r3 M4 => vp_in x3 12 ∧ ∀ M6 : Mem, M6 = sA M4 89 x3.toNatClampNeg (r3.toInt32) → ∀ v7 : Int32, v7 = x3 + 1 → R2 v7 M6))
def qX2_want (a2 : Int32) (M : Mem) (post : Mem → Prop) : Prop :=
  ∀ (R2 : Int32 → Mem → Prop), (∀ x3 M, qX2_want_b2 a2 post R2 x3 M → R2 x3 M) → R2 (0 : Int32) M
def qX6_wanted (a1 : Int32) (M : Mem) (post : Int32 → Mem → Prop) : Prop :=
  qX4_isNumber a1 M (fun r1 M2 => (¬ r1 = 0 → qX4_whyNotFirst a1 (12 : Int32) (500 : Int32) M2 (fun r4 M5 => (r4 = 0 → qX2_want a1 M5 (fun M8 => qX6_agree M8 (fun r9 M10 => zb r9 ∧ post r9 M10))) ∧ (¬ r4 = 0 → qX6_refuse r4 M5 (fun r11 M12 => zb r11 ∧ post r11 M12)))) ∧ (r1 = 0 → qX6_refuse (1 : Int32) M2 (fun r13 M14 => zb r13 ∧ post r13 M14)))
def qX2_own (a1 : Int32) (M : Mem) (post : Mem → Prop) : Prop :=
  ∀ M1 : Mem, M1 = sA M 75 3 a1 → ∀ M2 : Mem, M2 = sA M1 75 11 (0 : Int32) → post M2
def qX6_have (a1 : Int32) (M : Mem) (post : Int32 → Mem → Prop) : Prop :=
  qX6_within (a1.toInt64) (0 : Int32) (500 : Int32) M (fun r1 M2 => (¬ r1 = 0 → qX2_own a1 M2 (fun M5 => qX6_agree M5 (fun r6 M7 => zb r6 ∧ post r6 M7))) ∧ (r1 = 0 → qX6_refuse (1 : Int32) M2 (fun r8 M9 => zb r8 ∧ post r8 M9)))
def qX6_isMonth (a0 : Int32) (M : Mem) (post : Int32 → Mem → Prop) : Prop :=
  qX6_within (a0.toInt64) (0 : Int32) (11 : Int32) M (fun r1 M2 => zb r1 ∧ post r1 M2)
def qX2_addType_b40 (a1 : Int32) (a2 : Int32) (a3 : Int32) (a5 : Int32) (post : Int32 → Mem → Prop) (R40 : Int32 → Int32 → Mem → Prop) (x6 : Int32) (x7 : Int32) (M : Mem) : Prop :=
  ((12 : Int32) ≤ x7 → ∀ M10 : Mem, M10 = sA M 75 11 (0 : Int32) → post x6 M10) ∧ (¬ (12 : Int32) ≤ x7 → vp_in x6 4 ∧ qX4_at a5 x7 M (fun r12 M13 => vp_in x7 12 ∧ ∀ M15 : Mem, M15 = sA M13 (94 + x6.toNatClampNeg) x7.toNatClampNeg (r12.toInt32) → ∀ v16 : Int32, v16 = x7 + 1 → R40 x6 v16 M15))
def qX2_addType (a1 : Int32) (a2 : Int32) (a3 : Int32) (a5 : Int32) (M : Mem) (post : Int32 → Mem → Prop) : Prop :=
  ∀ (R40 : Int32 → Int32 → Mem → Prop), (∀ x6 x7 M, qX2_addType_b40 a1 a2 a3 a5 post R40 x6 x7 M → R40 x6 x7 M) → ∀ M1 : Mem, M1 = sA M 75 0 ((M.1 75 0) + (1 : Int32)) → ∀ v2 : Int32, v2 = (M.1 75 0) → vp_in v2 4 ∧ ∀ M4 : Mem, M4 = sA M1 90 v2.toNatClampNeg a1 → vp_in v2 4 ∧ ∀ M6 : Mem, M6 = sA M4 91 v2.toNatClampNeg a2 → vp_in v2 4 ∧ ∀ M8 : Mem, M8 = sA M6 92 v2.toNatClampNeg a3 → R40 v2 (0 : Int32) M8
def qX6_type (a1 : Int32) (a2 : Int32) (a3 : Int32) (a4 : Int32) (M : Mem) (post : Int32 → Mem → Prop) : Prop :=
  qX6_within (a1.toInt64) (1 : Int32) (100 : Int32) M (fun r1 M2 => (r1 = 0 → qX6_deny (1 : Int32) M2 (fun r4 M5 => post r4 M5)) ∧ (¬ r1 = 0 → qX6_isMonth a2 M2 (fun r6 M7 => (r6 = 0 → qX6_deny (1 : Int32) M7 (fun r9 M10 => post r9 M10)) ∧ (¬ r6 = 0 → qX4_isNumber a3 M7 (fun r11 M12 => (r11 = 0 → qX6_deny (1 : Int32) M12 (fun r14 M15 => post r14 M15)) ∧ (¬ r11 = 0 → qX6_within (a4.toInt64) (0 : Int32) (1000 : Int32) M12 (fun r16 M17 => (¬ r16 = 0 → qX4_whyNotFirst a3 (12 : Int32) (100000 : Int32) M17 (fun r19 M20 => (r19 = 0 → (¬ (M20.1 75 0) = (4 : Int32) → qX2_addType a1 a2 a4 a3 M20 (fun r23 M24 => qX6_answer r23 M24 (fun r25 M26 => post r25 M26))) ∧ ((M20.1 75 0) = (4 : Int32) → qX6_deny (4 : Int32) M20 (fun r27 M28 => post r27 M28))) ∧ (¬ r19 = 0 → qX6_deny r19 M20 (fun r29 M30 => post r29 M30)))) ∧ (r16 = 0 → qX6_deny (1 : Int32) M17 (fun r31 M32 => post r31 M32)))))))))
def qJ7_rangeCheck_23922 (a0 : Int32) (a1 : Int32) (a2 : Int32) (M : Mem) (post : Mem → Prop) : Prop :=
  (a1 ≤ a2 → (0 ≤ a1 → (a2 ≤ a0 → post M) ∧ (¬ a2 ≤ a0 → False)) ∧ (¬ 0 ≤ a1 → False)) ∧ (¬ a1 ≤ a2 → False)
def qJ7_fill_fda19_b10 (k n : Nat) (a1 : Int32) (a2 : Int32) (a3 : Int32) (post : Mem → Prop) (R10 : Int32 → Mem → Prop) (x4 : Int32) (M : Mem) : Prop :=
  (a2 ≤ x4 → post M) ∧ (¬ a2 ≤ x4 → vp_in x4 n ∧ ∀ M5 : Mem, M5 = sA M k x4.toNatClampNeg a3 → ∀ v6 : Int32, v6 = x4 + 1 → R10 v6 M5)
def qJ7_fill_fda19 (k n : Nat) (a1 : Int32) (a2 : Int32) (a3 : Int32) (M : Mem) (post : Mem → Prop) : Prop :=
  ∀ (R10 : Int32 → Mem → Prop), (∀ x4 M, qJ7_fill_fda19_b10 k n a1 a2 a3 post R10 x4 M → R10 x4 M) → qJ7_rangeCheck_23922 (nI n) a1 a2 M (fun M2 => R10 a1 M2)
def qX2_word (a0 : Int32) (a1 : Int32) (a2 : Int32) (M : Mem) (post : Int32 → Mem → Prop) : Prop :=
  post ((((a0 * (4 : Int32)) + a1) * (8 : Int32)) + (a2 >>> ((6 : Int32) &&& 31))) M
def qX2_offer_b33 (a1 : Int32) (a2 : Int32) (post : Mem → Prop) (R33 : Int32 → Int32 → Mem → Prop) (x3 : Int32) (x4 : Int32) (M : Mem) : Prop :=
  (x4 < 0 → post M) ∧ (¬ x4 < 0 → vp_in a2 4 ∧ vp_in (jmin (500 : Int32) (x4 + (M.1 90 a2.toNatClampNeg))) 501 ∧ ∀ v9 : Int32, v9 = (x3 + (M.1 98 (jmin (500 : Int32) (x4 + (M.1 90 a2.toNatClampNeg))).toNatClampNeg)) → vp_in x4 501 ∧ ((M.1 98 x4.toNatClampNeg) ≤ v9 → ∀ v12 : Int32, v12 = x4 + (-1) → R33 x3 v12 M) ∧ (¬ (M.1 98 x4.toNatClampNeg) ≤ v9 → vp_in x4 501 ∧ ∀ M14 : Mem, M14 = sA M 98 x4.toNatClampNeg v9 → qX2_word a1 a2 x4 M14 (fun r15 M16 => vp_in r15 384 ∧ vp_in r15 384 ∧ ∀ M19 : Mem, M19 = sB M16 99 r15.toNatClampNeg ((M16.2 99 r15.toNatClampNeg) ||| (jshlL (1 : Int64) (x4 &&& (63 : Int32)))) → ∀ v20 : Int32, v20 = x4 + (-1) → R33 x3 v20 M19)))
def qX2_offer (a1 : Int32) (a2 : Int32) (M : Mem) (post : Mem → Prop) : Prop :=
  ∀ (R33 : Int32 → Int32 → Mem → Prop), (∀ x3 x4 M, qX2_offer_b33 a1 a2 post R33 x3 x4 M → R33 x3 x4 M) → vp_in a2 4 ∧ vp_in a2 4 ∧ vp_in (a1 - (M.1 91 a2.toNatClampNeg)) 12 ∧ vp_in a2 4 ∧ ∀ v5 : Int32, v5 = ((M.1 (94 + a2.toNatClampNeg) (a1 - (M.1 91 a2.toNatClampNeg)).toNatClampNeg) + ((M.1 92 a2.toNatClampNeg) * ((12 : Int32) - a1))) → R33 v5 (499 : Int32) M
def qX2_isEnough  (M : Mem) (post : Int32 → Mem → Prop) : Prop :=
  ((1000000000 : Int32) ≤ (M.1 75 1) → post (0 : Int32) M) ∧ (¬ (1000000000 : Int32) ≤ (M.1 75 1) → post (1 : Int32) M)
def qX2_mustBuy (a1 : Int32) (a2 : Int32) (a3 : Int32) (M : Mem) (post : Int32 → Mem → Prop) : Prop :=
  qX2_word a1 a2 a3 M (fun r1 M2 => vp_in r1 384 ∧ ((lg_cmp ((jushrL (M2.2 99 r1.toNatClampNeg) (a3 &&& (63 : Int32))) &&& (1 : Int64)) (0 : Int64)) = 0 → post (0 : Int32) M2) ∧ (¬ (lg_cmp ((jushrL (M2.2 99 r1.toNatClampNeg) (a3 &&& (63 : Int32))) &&& (1 : Int64)) (0 : Int64)) = 0 → post (1 : Int32) M2))
def qX2_choose_b7  (post : Mem → Prop) (R7 : Int32 → Int32 → Mem → Prop) (R15 : Int32 → Int32 → Int32 → Mem → Prop) (R26 : Int32 → Int32 → Int32 → Int32 → Mem → Prop) (R72 : Int32 → Int32 → Int32 → Int32 → Mem → Prop) (x1 : Int32) (x2 : Int32) (M : Mem) : Prop :=
  ((12 : Int32) ≤ x2 → post M) ∧ (¬ (12 : Int32) ≤ x2 → R15 x1 x2 (0 : Int32) M)
def qX2_choose_b15  (post : Mem → Prop) (R7 : Int32 → Int32 → Mem → Prop) (R15 : Int32 → Int32 → Int32 → Mem → Prop) (R26 : Int32 → Int32 → Int32 → Int32 → Mem → Prop) (R72 : Int32 → Int32 → Int32 → Int32 → Mem → Prop) (x1 : Int32) (x2 : Int32) (x3 : Int32) (M : Mem) : Prop :=
  ((M.1 75 0) ≤ x3 → ∀ v4 : Int32, v4 = x2 + 1 → R7 x1 v4 M) ∧ (¬ (M.1 75 0) ≤ x3 → R26 x1 x2 x3 (0 : Int32) M)
def qX2_choose_b26  (post : Mem → Prop) (R7 : Int32 → Int32 → Mem → Prop) (R15 : Int32 → Int32 → Int32 → Mem → Prop) (R26 : Int32 → Int32 → Int32 → Int32 → Mem → Prop) (R72 : Int32 → Int32 → Int32 → Int32 → Mem → Prop) (x1 : Int32) (x2 : Int32) (x3 : Int32) (x4 : Int32) (M : Mem) : Prop :=
  ((500 : Int32) ≤ x4 → R72 x1 x2 x3 x4 M) ∧ (¬ (500 : Int32) ≤ x4 → ((500 : Int32) ≤ x1 → R72 x1 x2 x3 x4 M) ∧ (¬ (500 : Int32) ≤ x1 → qX2_mustBuy x2 x3 x1 M (fun r7 M8 => (r7 = 0 → R72 x1 x2 x3 x4 M8) ∧ (¬ r7 = 0 → vp_in x3 4 ∧ ∀ v11 : Int32, v11 = (jmin (500 : Int32) (x1 + (M8.1 90 x3.toNatClampNeg))) → ∀ v12 : Int32, v12 = x4 + 1 → R26 v11 x2 x3 v12 M8))))
def qX2_choose_b72  (post : Mem → Prop) (R7 : Int32 → Int32 → Mem → Prop) (R15 : Int32 → Int32 → Int32 → Mem → Prop) (R26 : Int32 → Int32 → Int32 → Int32 → Mem → Prop) (R72 : Int32 → Int32 → Int32 → Int32 → Mem → Prop) (x1 : Int32) (x2 : Int32) (x3 : Int32) (x4 : Int32) (M : Mem) : Prop :=
  vp_in x2 12 ∧ vp_in x3 4 ∧ ∀ M15 : Mem, M15 = sA M (77 + x2.toNatClampNeg) x3.toNatClampNeg x4 → ∀ v16 : Int32, v16 = x3 + 1 → R15 x1 x2 v16 M15
def qX2_choose  (M : Mem) (post : Mem → Prop) : Prop :=
  ∀ (R7 : Int32 → Int32 → Mem → Prop) (R15 : Int32 → Int32 → Int32 → Mem → Prop) (R26 : Int32 → Int32 → Int32 → Int32 → Mem → Prop) (R72 : Int32 → Int32 → Int32 → Int32 → Mem → Prop), (∀ x1 x2 M, qX2_choose_b7 post R7 R15 R26 R72 x1 x2 M → R7 x1 x2 M) → (∀ x1 x2 x3 M, qX2_choose_b15 post R7 R15 R26 R72 x1 x2 x3 M → R15 x1 x2 x3 M) → (∀ x1 x2 x3 x4 M, qX2_choose_b26 post R7 R15 R26 R72 x1 x2 x3 x4 M → R26 x1 x2 x3 x4 M) → (∀ x1 x2 x3 x4 M, qX2_choose_b72 post R7 R15 R26 R72 x1 x2 x3 x4 M → R72 x1 x2 x3 x4 M) → ∀ v1 : Int32, v1 = (M.1 75 3) → R7 v1 (0 : Int32) M
def qX2_solve_b32  (post : Mem → Prop) (R32 : Int32 → Mem → Prop) (R59 : Int32 → Int32 → Mem → Prop) (x1 : Int32) (M : Mem) : Prop :=
  (x1 < 0 → vp_in (M.1 75 3) 501 ∧ ∀ M9 : Mem, M9 = sA M 75 1 (M.1 98 (M.1 75 3).toNatClampNeg) → qX2_isEnough M9 (fun r10 M11 => (r10 = 0 → post M11) ∧ (¬ r10 = 0 → qX2_choose M11 (fun M14 => post M14)))) ∧ (¬ x1 < 0 → vp_in x1 12 ∧ qJ7_fill_fda19 98 501 (0 : Int32) (M.1 89 x1.toNatClampNeg) (1000000000 : Int32) M (fun M17 => ∀ v18 : Int32, v18 = ((M17.1 75 0) - (1 : Int32)) → R59 x1 v18 M17))
def qX2_solve_b59  (post : Mem → Prop) (R32 : Int32 → Mem → Prop) (R59 : Int32 → Int32 → Mem → Prop) (x1 : Int32) (x2 : Int32) (M : Mem) : Prop :=
  (x2 < 0 → ∀ v20 : Int32, v20 = x1 + (-1) → R32 v20 M) ∧ (¬ x2 < 0 → vp_in x2 4 ∧ (x1 < (M.1 91 x2.toNatClampNeg) → ∀ v23 : Int32, v23 = x2 + (-1) → R59 x1 v23 M) ∧ (¬ x1 < (M.1 91 x2.toNatClampNeg) → qX2_offer x1 x2 M (fun M25 => ∀ v26 : Int32, v26 = x2 + (-1) → R59 x1 v26 M25)))
def qX2_solve  (M : Mem) (post : Mem → Prop) : Prop :=
  ∀ (R32 : Int32 → Mem → Prop) (R59 : Int32 → Int32 → Mem → Prop), (∀ x1 M, qX2_solve_b32 post R32 R59 x1 M → R32 x1 M) → (∀ x1 x2 M, qX2_solve_b59 post R32 R59 x1 x2 M → R59 x1 x2 M) → ((M.1 75 11) = 0 → ∀ M2 : Mem, M2 = sA M 75 11 (1 : Int32) → qJ7_fill_53178 98 501 (0 : Int32) M2 (fun M4 => qJ7_fill_d0a16 99 384 (0 : Int64) M4 (fun M6 => R32 (11 : Int32) M6))) ∧ (¬ (M.1 75 11) = 0 → post M)
def qX6_cheapest  (M : Mem) (post : Int32 → Mem → Prop) : Prop :=
  qX2_solve M (fun M2 => qX2_isEnough M2 (fun r3 M4 => (r3 = 0 → qX6_deny (7 : Int32) M4 (fun r6 M7 => post r6 M7)) ∧ (¬ r3 = 0 → qX6_answer (M4.1 75 1) M4 (fun r8 M9 => post r8 M9))))
def qX2_hasType (a1 : Int32) (M : Mem) (post : Int32 → Mem → Prop) : Prop :=
  qX6_within (a1.toInt64) (0 : Int32) ((M.1 75 0) - (1 : Int32)) M (fun r1 M2 => zb r1 ∧ post r1 M2)
def qX6_buys (a1 : Int32) (a2 : Int32) (M : Mem) (post : Int32 → Mem → Prop) : Prop :=
  qX6_isMonth a1 M (fun r1 M2 => (r1 = 0 → qX6_deny (1 : Int32) M2 (fun r4 M5 => post r4 M5)) ∧ (¬ r1 = 0 → qX2_hasType a2 M2 (fun r6 M7 => (¬ r6 = 0 → qX2_solve M7 (fun M10 => qX2_isEnough M10 (fun r11 M12 => (r11 = 0 → qX6_deny (7 : Int32) M12 (fun r14 M15 => post r14 M15)) ∧ (¬ r11 = 0 → vp_in a1 12 ∧ vp_in a2 4 ∧ qX6_answer (M12.1 (77 + a1.toNatClampNeg) a2.toNatClampNeg) M12 (fun r18 M19 => post r18 M19))))) ∧ (r6 = 0 → qX6_deny (1 : Int32) M7 (fun r20 M21 => post r20 M21)))))
def qX7_status  (M : Mem) (post : Int32 → Mem → Prop) : Prop :=
  post (M.1 0 0) M
def qX7_is (a1 : Int32) (M : Mem) (post : Int32 → Mem → Prop) : Prop :=
  ∀ M1 : Mem, M1 = sA M 0 0 a1 → (¬ a1 = 0 → post (0 : Int32) M1) ∧ (a1 = 0 → post (1 : Int32) M1)
def qX7_refuse (a1 : Int32) (M : Mem) (post : Int32 → Mem → Prop) : Prop :=
  ∀ M1 : Mem, M1 = sA M 0 0 a1 → post (-1 : Int32) M1
def qX7_isSheet (a0 : Int32) (M : Mem) (post : Int32 → Mem → Prop) : Prop :=
  (a0 < 0 → post (0 : Int32) M) ∧ (¬ a0 < 0 → ((6 : Int32) ≤ a0 → post (0 : Int32) M) ∧ (¬ (6 : Int32) ≤ a0 → post (1 : Int32) M))
def qX7_cut (a0 : Int64) (a2 : Int32) (M : Mem) (post : Int64 → Mem → Prop) : Prop :=
  (¬ a2 = 0 → (¬ a2 = (1 : Int32) → (¬ a2 = (2 : Int32) → post a0 M) ∧ (a2 = (2 : Int32) → post ((a0.toInt32).toInt64) M)) ∧ (a2 = (1 : Int32) → post (((a0.toInt32).toInt16.toInt32).toInt64) M)) ∧ (a2 = 0 → post (((a0.toInt32).toInt8.toInt32).toInt64) M)
def qX7_sheet_b26 (a1 : Int32) (a2 : Int32) (a3 : Int32) (post : Int32 → Mem → Prop) (R26 : Mem → Prop) (R49 : Int32 → Mem → Prop)  (M : Mem) : Prop :=
  qX7_is (1 : Int32) M (fun r12 M13 => zb r12 ∧ post r12 M13)
def qX7_sheet_b49 (a1 : Int32) (a2 : Int32) (a3 : Int32) (post : Int32 → Mem → Prop) (R26 : Mem → Prop) (R49 : Int32 → Mem → Prop) (x4 : Int32) (M : Mem) : Prop :=
  (a3 ≤ x4 → qX7_is (0 : Int32) M (fun r15 M16 => zb r15 ∧ post r15 M16)) ∧ (¬ a3 ≤ x4 → vp_in (((64 : Int32) * a1) + x4) 384 ∧ ∀ M18 : Mem, M18 = sB M 3 (((64 : Int32) * a1) + x4).toNatClampNeg (0 : Int64) → ∀ v19 : Int32, v19 = x4 + 1 → R49 v19 M18)
def qX7_sheet (a1 : Int32) (a2 : Int32) (a3 : Int32) (M : Mem) (post : Int32 → Mem → Prop) : Prop :=
  ∀ (R26 : Mem → Prop) (R49 : Int32 → Mem → Prop), (∀ M, qX7_sheet_b26 a1 a2 a3 post R26 R49 M → R26 M) → (∀ x4 M, qX7_sheet_b49 a1 a2 a3 post R26 R49 x4 M → R49 x4 M) → qX7_isSheet a1 M (fun r1 M2 => (r1 = 0 → R26 M2) ∧ (¬ r1 = 0 → (a2 < 0 → R26 M2) ∧ (¬ a2 < 0 → ((3 : Int32) < a2 → R26 M2) ∧ (¬ (3 : Int32) < a2 → (a3 < 0 → R26 M2) ∧ (¬ a3 < 0 → (a3 ≤ (64 : Int32) → vp_in a1 6 ∧ ∀ M9 : Mem, M9 = sA M2 1 a1.toNatClampNeg a2 → vp_in a1 6 ∧ ∀ M11 : Mem, M11 = sA M9 2 a1.toNatClampNeg a3 → R49 (0 : Int32) M11) ∧ (¬ a3 ≤ (64 : Int32) → R26 M2))))))
def qX7_wrong (a1 : Int32) (a2 : Int32) (M : Mem) (post : Int32 → Mem → Prop) : Prop :=
  qX7_isSheet a1 M (fun r1 M2 => (¬ r1 = 0 → vp_in a1 6 ∧ (¬ (M2.1 2 a1.toNatClampNeg) = (-1 : Int32) → (a2 < 0 → post (3 : Int32) M2) ∧ (¬ a2 < 0 → vp_in a1 6 ∧ (a2 < (M2.1 2 a1.toNatClampNeg) → post (0 : Int32) M2) ∧ (¬ a2 < (M2.1 2 a1.toNatClampNeg) → post (3 : Int32) M2))) ∧ ((M2.1 2 a1.toNatClampNeg) = (-1 : Int32) → post (2 : Int32) M2)) ∧ (r1 = 0 → post (1 : Int32) M2))
def qX7_write (a1 : Int32) (a2 : Int32) (a3 : Int64) (M : Mem) (post : Int32 → Mem → Prop) : Prop :=
  qX7_wrong a1 a2 M (fun r1 M2 => (¬ r1 = 0 → qX7_is r1 M2 (fun r4 M5 => zb r4 ∧ post r4 M5)) ∧ (r1 = 0 → vp_in a1 6 ∧ qX7_cut a3 (M2.1 1 a1.toNatClampNeg) M2 (fun r7 M8 => vp_in (((64 : Int32) * a1) + a2) 384 ∧ ∀ M10 : Mem, M10 = sB M8 3 (((64 : Int32) * a1) + a2).toNatClampNeg r7 → qX7_is r1 M10 (fun r11 M12 => zb r11 ∧ post r11 M12))))
def qX7_read (a1 : Int32) (a2 : Int32) (M : Mem) (post : Int64 → Mem → Prop) : Prop :=
  qX7_wrong a1 a2 M (fun r1 M2 => ∀ M3 : Mem, M3 = sA M2 0 0 r1 → ((M3.1 0 0) ≤ 0 → vp_in (((64 : Int32) * a1) + a2) 384 ∧ post (M3.2 3 (((64 : Int32) * a1) + a2).toNatClampNeg) M3) ∧ (¬ (M3.1 0 0) ≤ 0 → post (-1 : Int64) M3))
def qX7_copy_b28 (a1 : Int32) (a2 : Int32) (a3 : Int32) (a4 : Int32) (a5 : Int32) (post : Int32 → Mem → Prop) (R28 : Mem → Prop) (R96 : Int32 → Mem → Prop) (R121 : Int32 → Int32 → Mem → Prop)  (M : Mem) : Prop :=
  qX7_is (1 : Int32) M (fun r26 M27 => zb r26 ∧ post r26 M27)
def qX7_copy_b96 (a1 : Int32) (a2 : Int32) (a3 : Int32) (a4 : Int32) (a5 : Int32) (post : Int32 → Mem → Prop) (R28 : Mem → Prop) (R96 : Int32 → Mem → Prop) (R121 : Int32 → Int32 → Mem → Prop) (x6 : Int32) (M : Mem) : Prop :=
  (a5 ≤ x6 → qX7_is (0 : Int32) M (fun r29 M30 => zb r29 ∧ post r29 M30)) ∧ (¬ a5 ≤ x6 → (a4 ≤ a2 → R121 x6 x6 M) ∧ (¬ a4 ≤ a2 → R121 x6 ((a5 - (1 : Int32)) - x6) M))
def qX7_copy_b121 (a1 : Int32) (a2 : Int32) (a3 : Int32) (a4 : Int32) (a5 : Int32) (post : Int32 → Mem → Prop) (R28 : Mem → Prop) (R96 : Int32 → Mem → Prop) (R121 : Int32 → Int32 → Mem → Prop) (x6 : Int32) (s0 : Int32) (M : Mem) : Prop :=
  vp_in ((((64 : Int32) * a1) + a2) + s0) 384 ∧ vp_in a3 6 ∧ qX7_cut (M.2 3 ((((64 : Int32) * a1) + a2) + s0).toNatClampNeg) (M.1 1 a3.toNatClampNeg) M (fun r34 M35 => vp_in ((((64 : Int32) * a3) + a4) + s0) 384 ∧ ∀ M37 : Mem, M37 = sB M35 3 ((((64 : Int32) * a3) + a4) + s0).toNatClampNeg r34 → ∀ v38 : Int32, v38 = x6 + 1 → R96 v38 M37)
def qX7_copy (a1 : Int32) (a2 : Int32) (a3 : Int32) (a4 : Int32) (a5 : Int32) (M : Mem) (post : Int32 → Mem → Prop) : Prop :=
  ∀ (R28 : Mem → Prop) (R96 : Int32 → Mem → Prop) (R121 : Int32 → Int32 → Mem → Prop), (∀ M, qX7_copy_b28 a1 a2 a3 a4 a5 post R28 R96 R121 M → R28 M) → (∀ x6 M, qX7_copy_b96 a1 a2 a3 a4 a5 post R28 R96 R121 x6 M → R96 x6 M) → (∀ x6 s0 M, qX7_copy_b121 a1 a2 a3 a4 a5 post R28 R96 R121 x6 s0 M → R121 x6 s0 M) → qX7_isSheet a1 M (fun r1 M2 => (r1 = 0 → R28 M2) ∧ (¬ r1 = 0 → qX7_isSheet a3 M2 (fun r4 M5 => (r4 = 0 → R28 M5) ∧ (¬ r4 = 0 → (a2 < 0 → R28 M5) ∧ (¬ a2 < 0 → (a4 < 0 → R28 M5) ∧ (¬ a4 < 0 → (0 ≤ a5 → vp_in a1 6 ∧ ((M5.1 2 a1.toNatClampNeg) = (-1 : Int32) → qX7_is (2 : Int32) M5 (fun r12 M13 => zb r12 ∧ post r12 M13)) ∧ (¬ (M5.1 2 a1.toNatClampNeg) = (-1 : Int32) → vp_in a3 6 ∧ (¬ (M5.1 2 a3.toNatClampNeg) = (-1 : Int32) → vp_in a1 6 ∧ (((M5.1 2 a1.toNatClampNeg) - a2) < a5 → qX7_is (3 : Int32) M5 (fun r18 M19 => zb r18 ∧ post r18 M19)) ∧ (¬ ((M5.1 2 a1.toNatClampNeg) - a2) < a5 → vp_in a3 6 ∧ (a5 ≤ ((M5.1 2 a3.toNatClampNeg) - a4) → R96 (0 : Int32) M5) ∧ (¬ a5 ≤ ((M5.1 2 a3.toNatClampNeg) - a4) → qX7_is (3 : Int32) M5 (fun r22 M23 => zb r22 ∧ post r22 M23)))) ∧ ((M5.1 2 a3.toNatClampNeg) = (-1 : Int32) → qX7_is (2 : Int32) M5 (fun r24 M25 => zb r24 ∧ post r24 M25)))) ∧ (¬ 0 ≤ a5 → R28 M5)))))))
def qX7_drop (a1 : Int32) (M : Mem) (post : Int32 → Mem → Prop) : Prop :=
  qX7_isSheet a1 M (fun r1 M2 => (¬ r1 = 0 → vp_in a1 6 ∧ (¬ (M2.1 2 a1.toNatClampNeg) = (-1 : Int32) → vp_in a1 6 ∧ ∀ M7 : Mem, M7 = sA M2 2 a1.toNatClampNeg (-1 : Int32) → qX7_is (0 : Int32) M7 (fun r8 M9 => zb r8 ∧ post r8 M9)) ∧ ((M2.1 2 a1.toNatClampNeg) = (-1 : Int32) → qX7_is (2 : Int32) M2 (fun r10 M11 => zb r10 ∧ post r10 M11))) ∧ (r1 = 0 → qX7_is (1 : Int32) M2 (fun r12 M13 => zb r12 ∧ post r12 M13)))
def qX7_none  (M : Mem) (post : Int32 → Mem → Prop) : Prop :=
  qX7_is (8 : Int32) M (fun r1 M2 => zb r1 ∧ post r1 M2)
def qX7_wrongNumbers_b36 (a1 : Int32) (a2 : Int32) (a3 : Int64) (post : Int32 → Mem → Prop) (R36 : Int32 → Mem → Prop) (x5 : Int32) (M : Mem) : Prop :=
  (a2 ≤ x5 → post (0 : Int32) M) ∧ (¬ a2 ≤ x5 → vp_in (((64 : Int32) * a1) + x5) 384 ∧ ((lg_cmp (M.2 3 (((64 : Int32) * a1) + x5).toNatClampNeg) (0 : Int64)) < 0 → post (1 : Int32) M) ∧ (¬ (lg_cmp (M.2 3 (((64 : Int32) * a1) + x5).toNatClampNeg) (0 : Int64)) < 0 → vp_in (((64 : Int32) * a1) + x5) 384 ∧ ((lg_cmp (M.2 3 (((64 : Int32) * a1) + x5).toNatClampNeg) a3) ≤ 0 → ∀ v13 : Int32, v13 = x5 + 1 → R36 v13 M) ∧ (¬ (lg_cmp (M.2 3 (((64 : Int32) * a1) + x5).toNatClampNeg) a3) ≤ 0 → post (1 : Int32) M)))
def qX7_wrongNumbers (a1 : Int32) (a2 : Int32) (a3 : Int64) (M : Mem) (post : Int32 → Mem → Prop) : Prop :=
  ∀ (R36 : Int32 → Mem → Prop), (∀ x5 M, qX7_wrongNumbers_b36 a1 a2 a3 post R36 x5 M → R36 x5 M) → qX7_isSheet a1 M (fun r1 M2 => (¬ r1 = 0 → vp_in a1 6 ∧ (¬ (M2.1 2 a1.toNatClampNeg) = (-1 : Int32) → vp_in a1 6 ∧ (a2 ≤ (M2.1 2 a1.toNatClampNeg) → R36 (0 : Int32) M2) ∧ (¬ a2 ≤ (M2.1 2 a1.toNatClampNeg) → post (3 : Int32) M2)) ∧ ((M2.1 2 a1.toNatClampNeg) = (-1 : Int32) → post (2 : Int32) M2)) ∧ (r1 = 0 → post (1 : Int32) M2))
def qX7_machine (a1 : Int32) (a2 : Int32) (M : Mem) (post : Int32 → Mem → Prop) : Prop :=
  (a1 < (1 : Int32) → qX7_refuse (1 : Int32) M (fun r2 M3 => post r2 M3)) ∧ (¬ a1 < (1 : Int32) → ((100 : Int32) < a1 → qX7_refuse (1 : Int32) M (fun r5 M6 => post r5 M6)) ∧ (¬ (100 : Int32) < a1 → (a2 < 0 → qX7_refuse (1 : Int32) M (fun r8 M9 => post r8 M9)) ∧ (¬ a2 < 0 → (a2 ≤ (3 : Int32) → (¬ (M.1 0 4) = (12 : Int32) → vp_in (M.1 0 4) 12 ∧ ∀ M13 : Mem, M13 = sA M 4 (M.1 0 4).toNatClampNeg a1 → vp_in (M13.1 0 4) 12 ∧ ∀ M15 : Mem, M15 = sA M13 5 (M13.1 0 4).toNatClampNeg a2 → vp_in (M15.1 0 4) 12 ∧ ∀ M17 : Mem, M17 = sA M15 6 (M15.1 0 4).toNatClampNeg (vp_nar .boolean (1 : Int32)) → ∀ M18 : Mem, M18 = sA M17 0 4 ((M17.1 0 4) + (1 : Int32)) → ∀ M19 : Mem, M19 = sA M18 0 0 (0 : Int32) → post ((M19.1 0 4) - (1 : Int32)) M19) ∧ ((M.1 0 4) = (12 : Int32) → qX7_refuse (4 : Int32) M (fun r20 M21 => post r20 M21))) ∧ (¬ a2 ≤ (3 : Int32) → qX7_refuse (1 : Int32) M (fun r22 M23 => post r22 M23)))))
def qX7_up (a1 : Int32) (a2 : Int32) (M : Mem) (post : Int32 → Mem → Prop) : Prop :=
  (a1 < 0 → qX7_is (1 : Int32) M (fun r2 M3 => zb r2 ∧ post r2 M3)) ∧ (¬ a1 < 0 → (a1 < (M.1 0 4) → vp_in a1 12 ∧ (¬ (M.1 6 a1.toNatClampNeg) = a2 → vp_in a1 12 ∧ ∀ M8 : Mem, M8 = sA M 6 a1.toNatClampNeg (vp_nar .boolean a2) → qX7_is (0 : Int32) M8 (fun r9 M10 => zb r9 ∧ post r9 M10)) ∧ ((M.1 6 a1.toNatClampNeg) = a2 → qX7_is (5 : Int32) M (fun r11 M12 => zb r11 ∧ post r11 M12))) ∧ (¬ a1 < (M.1 0 4) → qX7_is (1 : Int32) M (fun r13 M14 => zb r13 ∧ post r13 M14)))
def qX7_isAsk (a1 : Int32) (M : Mem) (post : Int32 → Mem → Prop) : Prop :=
  (a1 < 0 → post (0 : Int32) M) ∧ (¬ a1 < 0 → ((M.1 0 5) ≤ a1 → post (0 : Int32) M) ∧ (¬ (M.1 0 5) ≤ a1 → post (1 : Int32) M))
def qX7_ask_b26 (a1 : Int32) (a2 : Int32) (a3 : Int32) (post : Int32 → Mem → Prop) (R26 : Mem → Prop)  (M : Mem) : Prop :=
  qX7_refuse (1 : Int32) M (fun r19 M20 => post r19 M20)
def qX7_ask (a1 : Int32) (a2 : Int32) (a3 : Int32) (M : Mem) (post : Int32 → Mem → Prop) : Prop :=
  ∀ (R26 : Mem → Prop), (∀ M, qX7_ask_b26 a1 a2 a3 post R26 M → R26 M) → (a1 < (1 : Int32) → R26 M) ∧ (¬ a1 < (1 : Int32) → ((100 : Int32) < a1 → R26 M) ∧ (¬ (100 : Int32) < a1 → (a2 < 0 → R26 M) ∧ (¬ a2 < 0 → ((24 : Int32) ≤ a3 → R26 M) ∧ (¬ (24 : Int32) ≤ a3 → (a2 ≤ a3 → (¬ (M.1 0 5) = (10 : Int32) → vp_in (M.1 0 5) 10 ∧ ∀ M8 : Mem, M8 = sA M 7 (M.1 0 5).toNatClampNeg a1 → vp_in (M8.1 0 5) 10 ∧ ∀ M10 : Mem, M10 = sA M8 8 (M8.1 0 5).toNatClampNeg a2 → vp_in (M10.1 0 5) 10 ∧ ∀ M12 : Mem, M12 = sA M10 9 (M10.1 0 5).toNatClampNeg a3 → vp_in (M12.1 0 5) 10 ∧ ∀ M14 : Mem, M14 = sA M12 10 (M12.1 0 5).toNatClampNeg (0 : Int32) → ∀ M15 : Mem, M15 = sA M14 0 5 ((M14.1 0 5) + (1 : Int32)) → ∀ M16 : Mem, M16 = sA M15 0 0 (0 : Int32) → post ((M16.1 0 5) - (1 : Int32)) M16) ∧ ((M.1 0 5) = (10 : Int32) → qX7_refuse (4 : Int32) M (fun r17 M18 => post r17 M18))) ∧ (¬ a2 ≤ a3 → R26 M)))))
def qX7_apart_b46 (a1 : Int32) (a2 : Int32) (a3 : Int32) (post : Int32 → Mem → Prop) (R46 : Int32 → Mem → Prop) (s0 : Int32) (M : Mem) : Prop :=
  (¬ s0 = a3 → vp_in a1 10 ∧ vp_in a1 10 ∧ ∀ M19 : Mem, M19 = sA M 10 a1.toNatClampNeg ((M.1 10 a1.toNatClampNeg) ^^^ ((1 : Int32) <<< (a2 &&& 31))) → vp_in a2 10 ∧ vp_in a2 10 ∧ ∀ M22 : Mem, M22 = sA M19 10 a2.toNatClampNeg ((M19.1 10 a2.toNatClampNeg) ^^^ ((1 : Int32) <<< (a1 &&& 31))) → qX7_is (0 : Int32) M22 (fun r23 M24 => zb r23 ∧ post r23 M24)) ∧ (s0 = a3 → qX7_is (5 : Int32) M (fun r25 M26 => zb r25 ∧ post r25 M26))
def qX7_apart (a1 : Int32) (a2 : Int32) (a3 : Int32) (M : Mem) (post : Int32 → Mem → Prop) : Prop :=
  ∀ (R46 : Int32 → Mem → Prop), (∀ s0 M, qX7_apart_b46 a1 a2 a3 post R46 s0 M → R46 s0 M) → qX7_isAsk a1 M (fun r1 M2 => (r1 = 0 → qX7_is (1 : Int32) M2 (fun r4 M5 => zb r4 ∧ post r4 M5)) ∧ (¬ r1 = 0 → qX7_isAsk a2 M2 (fun r6 M7 => (r6 = 0 → qX7_is (1 : Int32) M7 (fun r9 M10 => zb r9 ∧ post r9 M10)) ∧ (¬ r6 = 0 → (¬ a1 = a2 → vp_in a1 10 ∧ (¬ (((M7.1 10 a1.toNatClampNeg) >>> (a2 &&& 31)) &&& (1 : Int32)) = (1 : Int32) → R46 (0 : Int32) M7) ∧ ((((M7.1 10 a1.toNatClampNeg) >>> (a2 &&& 31)) &&& (1 : Int32)) = (1 : Int32) → R46 (1 : Int32) M7)) ∧ (a1 = a2 → qX7_is (1 : Int32) M7 (fun r14 M15 => zb r14 ∧ post r14 M15))))))
def qX7_isHour (a0 : Int32) (M : Mem) (post : Int32 → Mem → Prop) : Prop :=
  (a0 < 0 → post (0 : Int32) M) ∧ (¬ a0 < 0 → ((24 : Int32) ≤ a0 → post (0 : Int32) M) ∧ (¬ (24 : Int32) ≤ a0 → post (1 : Int32) M))
def qX7_isFall (a0 : Int32) (M : Mem) (post : Int32 → Mem → Prop) : Prop :=
  (a0 < 0 → post (0 : Int32) M) ∧ (¬ a0 < 0 → ((17 : Int32) ≤ a0 → post (0 : Int32) M) ∧ (¬ (17 : Int32) ≤ a0 → post (1 : Int32) M))
def qX7_stands_b27 (a1 : Int32) (a2 : Int32) (post : Int32 → Mem → Prop) (R27 : Mem → Prop)  (M : Mem) : Prop :=
  (a2 < (13 : Int32) → post (1 : Int32) M) ∧ (¬ a2 < (13 : Int32) → vp_in a1 12 ∧ ((a2 - (13 : Int32)) = (M.1 5 a1.toNatClampNeg) → post (0 : Int32) M) ∧ (¬ (a2 - (13 : Int32)) = (M.1 5 a1.toNatClampNeg) → post (1 : Int32) M))
def qX7_stands (a1 : Int32) (a2 : Int32) (M : Mem) (post : Int32 → Mem → Prop) : Prop :=
  ∀ (R27 : Mem → Prop), (∀ M, qX7_stands_b27 a1 a2 post R27 M → R27 M) → vp_in a1 12 ∧ ((M.1 6 a1.toNatClampNeg) = 0 → post (0 : Int32) M) ∧ (¬ (M.1 6 a1.toNatClampNeg) = 0 → (a2 < (1 : Int32) → R27 M) ∧ (¬ a2 < (1 : Int32) → ((12 : Int32) < a2 → R27 M) ∧ (¬ (12 : Int32) < a2 → ((a2 - (1 : Int32)) = a1 → post (0 : Int32) M) ∧ (¬ (a2 - (1 : Int32)) = a1 → R27 M))))
def qX7_sizes_b4 (a1 : Int32) (post : Int32 → Mem → Prop) (R4 : Int32 → Int32 → Mem → Prop) (x2 : Int32) (x3 : Int32) (M : Mem) : Prop :=
  ((M.1 0 4) ≤ x3 → post x2 M) ∧ (¬ (M.1 0 4) ≤ x3 → qX7_stands x3 a1 M (fun r2 M3 => (r2 = 0 → ∀ v5 : Int32, v5 = (x2 + (0 : Int32)) → ∀ v6 : Int32, v6 = x3 + 1 → R4 v5 v6 M3) ∧ (¬ r2 = 0 → vp_in x3 12 ∧ ∀ v8 : Int32, v8 = (x2 + (M3.1 4 x3.toNatClampNeg)) → ∀ v9 : Int32, v9 = x3 + 1 → R4 v8 v9 M3)))
def qX7_sizes (a1 : Int32) (M : Mem) (post : Int32 → Mem → Prop) : Prop :=
  ∀ (R4 : Int32 → Int32 → Mem → Prop), (∀ x2 x3 M, qX7_sizes_b4 a1 post R4 x2 x3 M → R4 x2 x3 M) → R4 (0 : Int32) (0 : Int32) M
def qX7_count (a1 : Int32) (M : Mem) (post : Int32 → Mem → Prop) : Prop :=
  (a1 < 0 → qX7_refuse (1 : Int32) M (fun r2 M3 => post r2 M3)) ∧ (¬ a1 < 0 → (a1 ≤ (4 : Int32) → ∀ M5 : Mem, M5 = sA M 0 0 (0 : Int32) → (¬ a1 = 0 → (¬ a1 = (1 : Int32) → (¬ a1 = (2 : Int32) → (¬ a1 = (3 : Int32) → qX7_sizes (0 : Int32) M5 (fun r10 M11 => post r10 M11)) ∧ (a1 = (3 : Int32) → post (M5.1 0 7) M5)) ∧ (a1 = (2 : Int32) → post (M5.1 0 6) M5)) ∧ (a1 = (1 : Int32) → post (M5.1 0 5) M5)) ∧ (a1 = 0 → post (M5.1 0 4) M5)) ∧ (¬ a1 ≤ (4 : Int32) → qX7_refuse (1 : Int32) M (fun r12 M13 => post r12 M13)))
def qX7_look_b9 (a1 : Int32) (post : Mem → Prop) (R9 : Int32 → Int32 → Mem → Prop) (R31 : Int32 → Int32 → Int32 → Mem → Prop) (R143 : Int32 → Int32 → Mem → Prop) (R150 : Int32 → Int32 → Int32 → Mem → Prop) (R177 : Int32 → Int32 → Int32 → Int32 → Int32 → Mem → Prop) (R247 : Int32 → Int32 → Int32 → Int32 → Mem → Prop) (R262 : Int32 → Int32 → Int32 → Int32 → Mem → Prop) (x2 : Int32) (x3 : Int32) (M : Mem) : Prop :=
  (x2 ≤ x3 → ∀ v3 : Int32, v3 = ((M.1 0 4) - (1 : Int32)) → R143 x2 v3 M) ∧ (¬ x2 ≤ x3 → vp_in x3 1024 ∧ ∀ M5 : Mem, M5 = sA M 11 x3.toNatClampNeg (0 : Int32) → vp_in x3 1024 ∧ ∀ M7 : Mem, M7 = sA M5 12 x3.toNatClampNeg (vp_nar .boolean (1 : Int32)) → R31 x2 x3 (0 : Int32) M7)
def qX7_look_b31 (a1 : Int32) (post : Mem → Prop) (R9 : Int32 → Int32 → Mem → Prop) (R31 : Int32 → Int32 → Int32 → Mem → Prop) (R143 : Int32 → Int32 → Mem → Prop) (R150 : Int32 → Int32 → Int32 → Mem → Prop) (R177 : Int32 → Int32 → Int32 → Int32 → Int32 → Mem → Prop) (R247 : Int32 → Int32 → Int32 → Int32 → Mem → Prop) (R262 : Int32 → Int32 → Int32 → Int32 → Mem → Prop) (x2 : Int32) (x3 : Int32) (x4 : Int32) (M : Mem) : Prop :=
  ((M.1 0 5) ≤ x4 → (¬ x3 = 0 → vp_in (((1024 : Int32) * (M.1 0 4)) + x3) 13312 ∧ ∀ M11 : Mem, M11 = sA M 13 (((1024 : Int32) * (M.1 0 4)) + x3).toNatClampNeg (vp_nar .boolean (0 : Int32)) → ∀ v12 : Int32, v12 = x3 + 1 → R9 x2 v12 M11) ∧ (x3 = 0 → vp_in (((1024 : Int32) * (M.1 0 4)) + x3) 13312 ∧ ∀ M14 : Mem, M14 = sA M 13 (((1024 : Int32) * (M.1 0 4)) + x3).toNatClampNeg (vp_nar .boolean (1 : Int32)) → ∀ v15 : Int32, v15 = x3 + 1 → R9 x2 v15 M14)) ∧ (¬ (M.1 0 5) ≤ x4 → (¬ ((x3 >>> (x4 &&& 31)) &&& (1 : Int32)) = 0 → vp_in x3 1024 ∧ vp_in x4 10 ∧ vp_in x3 1024 ∧ ∀ M20 : Mem, M20 = sA M 11 x3.toNatClampNeg ((M.1 11 x3.toNatClampNeg) + (M.1 7 x4.toNatClampNeg)) → vp_in x3 1024 ∧ ((M20.1 12 x3.toNatClampNeg) = 0 → vp_in x3 1024 ∧ ∀ M24 : Mem, M24 = sA M20 12 x3.toNatClampNeg (vp_nar .boolean (0 : Int32)) → ∀ v25 : Int32, v25 = x4 + 1 → R31 x2 x3 v25 M24) ∧ (¬ (M20.1 12 x3.toNatClampNeg) = 0 → vp_in x4 10 ∧ (¬ (x3 &&& (M20.1 10 x4.toNatClampNeg)) = 0 → vp_in x3 1024 ∧ ∀ M29 : Mem, M29 = sA M20 12 x3.toNatClampNeg (vp_nar .boolean (0 : Int32)) → ∀ v30 : Int32, v30 = x4 + 1 → R31 x2 x3 v30 M29) ∧ ((x3 &&& (M20.1 10 x4.toNatClampNeg)) = 0 → vp_in x3 1024 ∧ ∀ M32 : Mem, M32 = sA M20 12 x3.toNatClampNeg (vp_nar .boolean (1 : Int32)) → ∀ v33 : Int32, v33 = x4 + 1 → R31 x2 x3 v33 M32))) ∧ (((x3 >>> (x4 &&& 31)) &&& (1 : Int32)) = 0 → ∀ v34 : Int32, v34 = x4 + 1 → R31 x2 x3 v34 M))
def qX7_look_b143 (a1 : Int32) (post : Mem → Prop) (R9 : Int32 → Int32 → Mem → Prop) (R31 : Int32 → Int32 → Int32 → Mem → Prop) (R143 : Int32 → Int32 → Mem → Prop) (R150 : Int32 → Int32 → Int32 → Mem → Prop) (R177 : Int32 → Int32 → Int32 → Int32 → Int32 → Mem → Prop) (R247 : Int32 → Int32 → Int32 → Int32 → Mem → Prop) (R262 : Int32 → Int32 → Int32 → Int32 → Mem → Prop) (x2 : Int32) (x3 : Int32) (M : Mem) : Prop :=
  (x3 < 0 → post M) ∧ (¬ x3 < 0 → R150 x2 x3 (0 : Int32) M)
def qX7_look_b150 (a1 : Int32) (post : Mem → Prop) (R9 : Int32 → Int32 → Mem → Prop) (R31 : Int32 → Int32 → Int32 → Mem → Prop) (R143 : Int32 → Int32 → Mem → Prop) (R150 : Int32 → Int32 → Int32 → Mem → Prop) (R177 : Int32 → Int32 → Int32 → Int32 → Int32 → Mem → Prop) (R247 : Int32 → Int32 → Int32 → Int32 → Mem → Prop) (R262 : Int32 → Int32 → Int32 → Int32 → Mem → Prop) (x2 : Int32) (x3 : Int32) (x4 : Int32) (M : Mem) : Prop :=
  (x2 ≤ x4 → ∀ v37 : Int32, v37 = x3 + (-1) → R143 x2 v37 M) ∧ (¬ x2 ≤ x4 → vp_in (((1024 : Int32) * (x3 + (1 : Int32))) + x4) 13312 ∧ ∀ v39 : Int32, v39 = (M.1 13 (((1024 : Int32) * (x3 + (1 : Int32))) + x4).toNatClampNeg) → R177 x2 x3 x4 v39 x4 M)
def qX7_look_b177 (a1 : Int32) (post : Mem → Prop) (R9 : Int32 → Int32 → Mem → Prop) (R31 : Int32 → Int32 → Int32 → Mem → Prop) (R143 : Int32 → Int32 → Mem → Prop) (R150 : Int32 → Int32 → Int32 → Mem → Prop) (R177 : Int32 → Int32 → Int32 → Int32 → Int32 → Mem → Prop) (R247 : Int32 → Int32 → Int32 → Int32 → Mem → Prop) (R262 : Int32 → Int32 → Int32 → Int32 → Mem → Prop) (x2 : Int32) (x3 : Int32) (x4 : Int32) (x5 : Int32) (x6 : Int32) (M : Mem) : Prop :=
  (x6 ≤ 0 → R262 x2 x3 x4 x5 M) ∧ (¬ x6 ≤ 0 → (¬ x5 = 0 → R262 x2 x3 x4 x5 M) ∧ (x5 = 0 → qX7_stands x3 a1 M (fun r42 M43 => (r42 = 0 → R262 x2 x3 x4 x5 M43) ∧ (¬ r42 = 0 → vp_in x6 1024 ∧ ((M43.1 12 x6.toNatClampNeg) = 0 → R247 x2 x3 x4 x6 M43) ∧ (¬ (M43.1 12 x6.toNatClampNeg) = 0 → vp_in x6 1024 ∧ vp_in x3 12 ∧ ((M43.1 4 x3.toNatClampNeg) < (M43.1 11 x6.toNatClampNeg) → R247 x2 x3 x4 x6 M43) ∧ (¬ (M43.1 4 x3.toNatClampNeg) < (M43.1 11 x6.toNatClampNeg) → vp_in (((1024 : Int32) * (x3 + (1 : Int32))) + (x4 ^^^ x6)) 13312 ∧ ((M43.1 13 (((1024 : Int32) * (x3 + (1 : Int32))) + (x4 ^^^ x6)).toNatClampNeg) = 0 → R247 x2 x3 x4 x6 M43) ∧ (¬ (M43.1 13 (((1024 : Int32) * (x3 + (1 : Int32))) + (x4 ^^^ x6)).toNatClampNeg) = 0 → ∀ v52 : Int32, v52 = ((x6 - (1 : Int32)) &&& x4) → R177 x2 x3 x4 (1 : Int32) v52 M43)))))))
def qX7_look_b247 (a1 : Int32) (post : Mem → Prop) (R9 : Int32 → Int32 → Mem → Prop) (R31 : Int32 → Int32 → Int32 → Mem → Prop) (R143 : Int32 → Int32 → Mem → Prop) (R150 : Int32 → Int32 → Int32 → Mem → Prop) (R177 : Int32 → Int32 → Int32 → Int32 → Int32 → Mem → Prop) (R247 : Int32 → Int32 → Int32 → Int32 → Mem → Prop) (R262 : Int32 → Int32 → Int32 → Int32 → Mem → Prop) (x2 : Int32) (x3 : Int32) (x4 : Int32) (x6 : Int32) (M : Mem) : Prop :=
  ∀ v53 : Int32, v53 = ((x6 - (1 : Int32)) &&& x4) → R177 x2 x3 x4 (0 : Int32) v53 M
def qX7_look_b262 (a1 : Int32) (post : Mem → Prop) (R9 : Int32 → Int32 → Mem → Prop) (R31 : Int32 → Int32 → Int32 → Mem → Prop) (R143 : Int32 → Int32 → Mem → Prop) (R150 : Int32 → Int32 → Int32 → Mem → Prop) (R177 : Int32 → Int32 → Int32 → Int32 → Int32 → Mem → Prop) (R247 : Int32 → Int32 → Int32 → Int32 → Mem → Prop) (R262 : Int32 → Int32 → Int32 → Int32 → Mem → Prop) (x2 : Int32) (x3 : Int32) (x4 : Int32) (x5 : Int32) (M : Mem) : Prop :=
  vp_in (((1024 : Int32) * x3) + x4) 13312 ∧ ∀ M55 : Mem, M55 = sA M 13 (((1024 : Int32) * x3) + x4).toNatClampNeg (vp_nar .boolean x5) → ∀ v56 : Int32, v56 = x4 + 1 → R150 x2 x3 v56 M55
def qX7_look (a1 : Int32) (M : Mem) (post : Mem → Prop) : Prop :=
  ∀ (R9 : Int32 → Int32 → Mem → Prop) (R31 : Int32 → Int32 → Int32 → Mem → Prop) (R143 : Int32 → Int32 → Mem → Prop) (R150 : Int32 → Int32 → Int32 → Mem → Prop) (R177 : Int32 → Int32 → Int32 → Int32 → Int32 → Mem → Prop) (R247 : Int32 → Int32 → Int32 → Int32 → Mem → Prop) (R262 : Int32 → Int32 → Int32 → Int32 → Mem → Prop), (∀ x2 x3 M, qX7_look_b9 a1 post R9 R31 R143 R150 R177 R247 R262 x2 x3 M → R9 x2 x3 M) → (∀ x2 x3 x4 M, qX7_look_b31 a1 post R9 R31 R143 R150 R177 R247 R262 x2 x3 x4 M → R31 x2 x3 x4 M) → (∀ x2 x3 M, qX7_look_b143 a1 post R9 R31 R143 R150 R177 R247 R262 x2 x3 M → R143 x2 x3 M) → (∀ x2 x3 x4 M, qX7_look_b150 a1 post R9 R31 R143 R150 R177 R247 R262 x2 x3 x4 M → R150 x2 x3 x4 M) → (∀ x2 x3 x4 x5 x6 M, qX7_look_b177 a1 post R9 R31 R143 R150 R177 R247 R262 x2 x3 x4 x5 x6 M → R177 x2 x3 x4 x5 x6 M) → (∀ x2 x3 x4 x6 M, qX7_look_b247 a1 post R9 R31 R143 R150 R177 R247 R262 x2 x3 x4 x6 M → R247 x2 x3 x4 x6 M) → (∀ x2 x3 x4 x5 M, qX7_look_b262 a1 post R9 R31 R143 R150 R177 R247 R262 x2 x3 x4 x5 M → R262 x2 x3 x4 x5 M) → ∀ v1 : Int32, v1 = ((1 : Int32) <<< ((M.1 0 5) &&& 31)) → R9 v1 (0 : Int32) M
def qX7_setOf_b4 (a1 : Int32) (post : Int32 → Mem → Prop) (R4 : Int32 → Int32 → Mem → Prop) (x2 : Int32) (x3 : Int32) (M : Mem) : Prop :=
  ((M.1 0 5) ≤ x3 → post x2 M) ∧ (¬ (M.1 0 5) ≤ x3 → vp_in x3 10 ∧ (a1 < (M.1 8 x3.toNatClampNeg) → ∀ v4 : Int32, v4 = x3 + 1 → R4 x2 v4 M) ∧ (¬ a1 < (M.1 8 x3.toNatClampNeg) → vp_in x3 10 ∧ ((M.1 9 x3.toNatClampNeg) < a1 → ∀ v7 : Int32, v7 = x3 + 1 → R4 x2 v7 M) ∧ (¬ (M.1 9 x3.toNatClampNeg) < a1 → ∀ v8 : Int32, v8 = (x2 ||| ((1 : Int32) <<< (x3 &&& 31))) → ∀ v9 : Int32, v9 = x3 + 1 → R4 v8 v9 M)))
def qX7_setOf (a1 : Int32) (M : Mem) (post : Int32 → Mem → Prop) : Prop :=
  ∀ (R4 : Int32 → Int32 → Mem → Prop), (∀ x2 x3 M, qX7_setOf_b4 a1 post R4 x2 x3 M → R4 x2 x3 M) → R4 (0 : Int32) (0 : Int32) M
def qX7_fits (a1 : Int32) (a2 : Int32) (M : Mem) (post : Int32 → Mem → Prop) : Prop :=
  qX7_isHour a1 M (fun r1 M2 => (r1 = 0 → qX7_refuse (1 : Int32) M2 (fun r4 M5 => post r4 M5)) ∧ (¬ r1 = 0 → qX7_isFall a2 M2 (fun r6 M7 => (¬ r6 = 0 → qX7_look a2 M7 (fun M10 => ∀ M11 : Mem, M11 = sA M10 0 0 (0 : Int32) → qX7_setOf a1 M11 (fun r12 M13 => vp_in r12 13312 ∧ ((M13.1 13 r12.toNatClampNeg) = 0 → post (0 : Int32) M13) ∧ (¬ (M13.1 13 r12.toNatClampNeg) = 0 → post (1 : Int32) M13)))) ∧ (r6 = 0 → qX7_refuse (1 : Int32) M7 (fun r16 M17 => post r16 M17)))))
def qX7_on_b77 (a1 : Int32) (a2 : Int32) (a3 : Int32) (post : Int32 → Mem → Prop) (R77 : Int32 → Int32 → Mem → Prop) (R103 : Int32 → Int32 → Int32 → Mem → Prop) (R157 : Int32 → Int32 → Int32 → Mem → Prop) (R169 : Int32 → Int32 → Int32 → Mem → Prop) (x4 : Int32) (x5 : Int32) (M : Mem) : Prop :=
  ((M.1 0 4) ≤ x5 → post (-1 : Int32) M) ∧ (¬ (M.1 0 4) ≤ x5 → qX7_stands x5 a2 M (fun r31 M32 => (¬ r31 = 0 → R103 x4 x5 x4 M32) ∧ (r31 = 0 → R103 x4 x5 (0 : Int32) M32)))
def qX7_on_b103 (a1 : Int32) (a2 : Int32) (a3 : Int32) (post : Int32 → Mem → Prop) (R77 : Int32 → Int32 → Mem → Prop) (R103 : Int32 → Int32 → Int32 → Mem → Prop) (R157 : Int32 → Int32 → Int32 → Mem → Prop) (R169 : Int32 → Int32 → Int32 → Mem → Prop) (x4 : Int32) (x5 : Int32) (x6 : Int32) (M : Mem) : Prop :=
  (x6 ≤ 0 → R169 x4 x5 x6 M) ∧ (¬ x6 ≤ 0 → vp_in x6 1024 ∧ ((M.1 12 x6.toNatClampNeg) = 0 → R157 x4 x5 x6 M) ∧ (¬ (M.1 12 x6.toNatClampNeg) = 0 → vp_in x6 1024 ∧ vp_in x5 12 ∧ ((M.1 4 x5.toNatClampNeg) < (M.1 11 x6.toNatClampNeg) → R157 x4 x5 x6 M) ∧ (¬ (M.1 4 x5.toNatClampNeg) < (M.1 11 x6.toNatClampNeg) → vp_in (((1024 : Int32) * (x5 + (1 : Int32))) + (x4 ^^^ x6)) 13312 ∧ (¬ (M.1 13 (((1024 : Int32) * (x5 + (1 : Int32))) + (x4 ^^^ x6)).toNatClampNeg) = 0 → R169 x4 x5 x6 M) ∧ ((M.1 13 (((1024 : Int32) * (x5 + (1 : Int32))) + (x4 ^^^ x6)).toNatClampNeg) = 0 → R157 x4 x5 x6 M))))
def qX7_on_b157 (a1 : Int32) (a2 : Int32) (a3 : Int32) (post : Int32 → Mem → Prop) (R77 : Int32 → Int32 → Mem → Prop) (R103 : Int32 → Int32 → Int32 → Mem → Prop) (R157 : Int32 → Int32 → Int32 → Mem → Prop) (R169 : Int32 → Int32 → Int32 → Mem → Prop) (x4 : Int32) (x5 : Int32) (x6 : Int32) (M : Mem) : Prop :=
  ∀ v42 : Int32, v42 = ((x6 - (1 : Int32)) &&& x4) → R103 x4 x5 v42 M
def qX7_on_b169 (a1 : Int32) (a2 : Int32) (a3 : Int32) (post : Int32 → Mem → Prop) (R77 : Int32 → Int32 → Mem → Prop) (R103 : Int32 → Int32 → Int32 → Mem → Prop) (R157 : Int32 → Int32 → Int32 → Mem → Prop) (R169 : Int32 → Int32 → Int32 → Mem → Prop) (x4 : Int32) (x5 : Int32) (x6 : Int32) (M : Mem) : Prop :=
  (¬ ((x6 >>> (a3 &&& 31)) &&& (1 : Int32)) = (1 : Int32) → ∀ v44 : Int32, v44 = (x4 ^^^ x6) → ∀ v45 : Int32, v45 = x5 + 1 → R77 v44 v45 M) ∧ (((x6 >>> (a3 &&& 31)) &&& (1 : Int32)) = (1 : Int32) → post x5 M)
def qX7_on (a1 : Int32) (a2 : Int32) (a3 : Int32) (M : Mem) (post : Int32 → Mem → Prop) : Prop :=
  ∀ (R77 : Int32 → Int32 → Mem → Prop) (R103 : Int32 → Int32 → Int32 → Mem → Prop) (R157 : Int32 → Int32 → Int32 → Mem → Prop) (R169 : Int32 → Int32 → Int32 → Mem → Prop), (∀ x4 x5 M, qX7_on_b77 a1 a2 a3 post R77 R103 R157 R169 x4 x5 M → R77 x4 x5 M) → (∀ x4 x5 x6 M, qX7_on_b103 a1 a2 a3 post R77 R103 R157 R169 x4 x5 x6 M → R103 x4 x5 x6 M) → (∀ x4 x5 x6 M, qX7_on_b157 a1 a2 a3 post R77 R103 R157 R169 x4 x5 x6 M → R157 x4 x5 x6 M) → (∀ x4 x5 x6 M, qX7_on_b169 a1 a2 a3 post R77 R103 R157 R169 x4 x5 x6 M → R169 x4 x5 x6 M) → qX7_isHour a1 M (fun r1 M2 => (r1 = 0 → qX7_refuse (1 : Int32) M2 (fun r4 M5 => post r4 M5)) ∧ (¬ r1 = 0 → qX7_isFall a2 M2 (fun r6 M7 => (r6 = 0 → qX7_refuse (1 : Int32) M7 (fun r9 M10 => post r9 M10)) ∧ (¬ r6 = 0 → qX7_isAsk a3 M7 (fun r11 M12 => (r11 = 0 → qX7_refuse (1 : Int32) M12 (fun r14 M15 => post r14 M15)) ∧ (¬ r11 = 0 → qX7_setOf a1 M12 (fun r16 M17 => (¬ ((r16 >>> (a3 &&& 31)) &&& (1 : Int32)) = 0 → qX7_look a2 M17 (fun M20 => qX7_setOf a1 M20 (fun r21 M22 => vp_in r21 13312 ∧ (¬ (M22.1 13 r21.toNatClampNeg) = 0 → ∀ M25 : Mem, M25 = sA M22 0 0 (0 : Int32) → R77 r21 (0 : Int32) M25) ∧ ((M22.1 13 r21.toNatClampNeg) = 0 → qX7_refuse (6 : Int32) M22 (fun r26 M27 => post r26 M27))))) ∧ (((r16 >>> (a3 &&& 31)) &&& (1 : Int32)) = 0 → qX7_refuse (1 : Int32) M17 (fun r28 M29 => post r28 M29)))))))))
def qX7_lack_b42 (a1 : Int32) (a2 : Int32) (post : Int32 → Mem → Prop) (R42 : Int32 → Int32 → Int32 → Mem → Prop) (x3 : Int32) (x4 : Int32) (x5 : Int32) (M : Mem) : Prop :=
  (x3 < x5 → vp_in x3 1024 ∧ post ((M.1 11 x3.toNatClampNeg) - x4) M) ∧ (¬ x3 < x5 → (¬ (x5 &&& x3) = x5 → ∀ v19 : Int32, v19 = x5 + 1 → R42 x3 x4 v19 M) ∧ ((x5 &&& x3) = x5 → vp_in x5 13312 ∧ ((M.1 13 x5.toNatClampNeg) = 0 → ∀ v22 : Int32, v22 = x5 + 1 → R42 x3 x4 v22 M) ∧ (¬ (M.1 13 x5.toNatClampNeg) = 0 → vp_in x5 1024 ∧ ((M.1 11 x5.toNatClampNeg) ≤ x4 → ∀ v25 : Int32, v25 = x5 + 1 → R42 x3 x4 v25 M) ∧ (¬ (M.1 11 x5.toNatClampNeg) ≤ x4 → vp_in x5 1024 ∧ ∀ v27 : Int32, v27 = (M.1 11 x5.toNatClampNeg) → ∀ v28 : Int32, v28 = x5 + 1 → R42 x3 v27 v28 M))))
def qX7_lack (a1 : Int32) (a2 : Int32) (M : Mem) (post : Int32 → Mem → Prop) : Prop :=
  ∀ (R42 : Int32 → Int32 → Int32 → Mem → Prop), (∀ x3 x4 x5 M, qX7_lack_b42 a1 a2 post R42 x3 x4 x5 M → R42 x3 x4 x5 M) → qX7_isHour a1 M (fun r1 M2 => (r1 = 0 → qX7_refuse (1 : Int32) M2 (fun r4 M5 => post r4 M5)) ∧ (¬ r1 = 0 → qX7_isFall a2 M2 (fun r6 M7 => (¬ r6 = 0 → qX7_look a2 M7 (fun M10 => ∀ M11 : Mem, M11 = sA M10 0 0 (0 : Int32) → qX7_setOf a1 M11 (fun r12 M13 => R42 r12 (0 : Int32) (0 : Int32) M13))) ∧ (r6 = 0 → qX7_refuse (1 : Int32) M7 (fun r14 M15 => post r14 M15)))))
def qX7_leftOf (a1 : Int32) (a2 : Int32) (M : Mem) (post : Int32 → Mem → Prop) : Prop :=
  qX7_setOf a1 M (fun r1 M2 => vp_in r1 13312 ∧ ((M2.1 13 r1.toNatClampNeg) = 0 → post (0 : Int32) M2) ∧ (¬ (M2.1 13 r1.toNatClampNeg) = 0 → qX7_sizes a2 M2 (fun r5 M6 => qX7_setOf a1 M6 (fun r7 M8 => vp_in r7 1024 ∧ post (r5 - (M8.1 11 r7.toNatClampNeg)) M8))))
def qX7_left (a1 : Int32) (a2 : Int32) (M : Mem) (post : Int32 → Mem → Prop) : Prop :=
  qX7_isHour a1 M (fun r1 M2 => (r1 = 0 → qX7_refuse (1 : Int32) M2 (fun r4 M5 => post r4 M5)) ∧ (¬ r1 = 0 → qX7_isFall a2 M2 (fun r6 M7 => (¬ r6 = 0 → qX7_look a2 M7 (fun M10 => ∀ M11 : Mem, M11 = sA M10 0 0 (0 : Int32) → qX7_leftOf a1 a2 M11 (fun r12 M13 => post r12 M13))) ∧ (r6 = 0 → qX7_refuse (1 : Int32) M7 (fun r14 M15 => post r14 M15)))))
def qX7_enough_b28 (a1 : Int32) (post : Int32 → Mem → Prop) (R28 : Int32 → Int32 → Int32 → Mem → Prop) (R60 : Int32 → Int32 → Int32 → Mem → Prop) (R84 : Int32 → Int32 → Int32 → Int32 → Mem → Prop) (x2 : Int32) (x3 : Int32) (x4 : Int32) (M : Mem) : Prop :=
  ((17 : Int32) ≤ x4 → (¬ x2 = (24 : Int32) → post (((100 : Int32) * x2) + x3) M) ∧ (x2 = (24 : Int32) → post (-2 : Int32) M)) ∧ (¬ (17 : Int32) ≤ x4 → (x4 ≤ 0 → (x4 ≤ (M.1 0 4) → R60 x2 x3 x4 M) ∧ (¬ x4 ≤ (M.1 0 4) → (x4 < (13 : Int32) → ∀ v13 : Int32, v13 = x4 + 1 → R28 x2 x3 v13 M) ∧ (¬ x4 < (13 : Int32) → R60 x2 x3 x4 M))) ∧ (¬ x4 ≤ 0 → (a1 = 0 → ∀ v15 : Int32, v15 = x4 + 1 → R28 x2 x3 v15 M) ∧ (¬ a1 = 0 → (x4 ≤ (M.1 0 4) → R60 x2 x3 x4 M) ∧ (¬ x4 ≤ (M.1 0 4) → (x4 < (13 : Int32) → ∀ v18 : Int32, v18 = x4 + 1 → R28 x2 x3 v18 M) ∧ (¬ x4 < (13 : Int32) → R60 x2 x3 x4 M)))))
def qX7_enough_b60 (a1 : Int32) (post : Int32 → Mem → Prop) (R28 : Int32 → Int32 → Int32 → Mem → Prop) (R60 : Int32 → Int32 → Int32 → Mem → Prop) (R84 : Int32 → Int32 → Int32 → Int32 → Mem → Prop) (x2 : Int32) (x3 : Int32) (x4 : Int32) (M : Mem) : Prop :=
  (x4 ≤ (12 : Int32) → qX7_look x4 M (fun M21 => R84 x2 x3 x4 (0 : Int32) M21)) ∧ (¬ x4 ≤ (12 : Int32) → ((2 : Int32) ≤ a1 → qX7_look x4 M (fun M24 => R84 x2 x3 x4 (0 : Int32) M24)) ∧ (¬ (2 : Int32) ≤ a1 → ∀ v25 : Int32, v25 = x4 + 1 → R28 x2 x3 v25 M))
def qX7_enough_b84 (a1 : Int32) (post : Int32 → Mem → Prop) (R28 : Int32 → Int32 → Int32 → Mem → Prop) (R60 : Int32 → Int32 → Int32 → Mem → Prop) (R84 : Int32 → Int32 → Int32 → Int32 → Mem → Prop) (x2 : Int32) (x3 : Int32) (x4 : Int32) (x5 : Int32) (M : Mem) : Prop :=
  (x2 ≤ x5 → ∀ v27 : Int32, v27 = x4 + 1 → R28 x2 x3 v27 M) ∧ (¬ x2 ≤ x5 → qX7_setOf x5 M (fun r28 M29 => vp_in r28 13312 ∧ ((M29.1 13 r28.toNatClampNeg) = 0 → ∀ v32 : Int32, v32 = x5 + 1 → R84 x5 x4 x4 v32 M29) ∧ (¬ (M29.1 13 r28.toNatClampNeg) = 0 → ∀ v33 : Int32, v33 = x5 + 1 → R84 x2 x3 x4 v33 M29)))
def qX7_enough (a1 : Int32) (M : Mem) (post : Int32 → Mem → Prop) : Prop :=
  ∀ (R28 : Int32 → Int32 → Int32 → Mem → Prop) (R60 : Int32 → Int32 → Int32 → Mem → Prop) (R84 : Int32 → Int32 → Int32 → Int32 → Mem → Prop), (∀ x2 x3 x4 M, qX7_enough_b28 a1 post R28 R60 R84 x2 x3 x4 M → R28 x2 x3 x4 M) → (∀ x2 x3 x4 M, qX7_enough_b60 a1 post R28 R60 R84 x2 x3 x4 M → R60 x2 x3 x4 M) → (∀ x2 x3 x4 x5 M, qX7_enough_b84 a1 post R28 R60 R84 x2 x3 x4 x5 M → R84 x2 x3 x4 x5 M) → (a1 < 0 → qX7_refuse (1 : Int32) M (fun r2 M3 => post r2 M3)) ∧ (¬ a1 < 0 → (a1 ≤ (2 : Int32) → ∀ M5 : Mem, M5 = sA M 0 0 (0 : Int32) → R28 (24 : Int32) (-1 : Int32) (0 : Int32) M5) ∧ (¬ a1 ≤ (2 : Int32) → qX7_refuse (1 : Int32) M (fun r6 M7 => post r6 M7)))
def qX7_batch_b47 (a1 : Int32) (a2 : Int32) (a3 : Int32) (a4 : Int32) (post : Int32 → Mem → Prop) (R47 : Mem → Prop)  (M : Mem) : Prop :=
  qX7_refuse (1 : Int32) M (fun r22 M23 => post r22 M23)
def qX7_batch (a1 : Int32) (a2 : Int32) (a3 : Int32) (a4 : Int32) (M : Mem) (post : Int32 → Mem → Prop) : Prop :=
  ∀ (R47 : Mem → Prop), (∀ M, qX7_batch_b47 a1 a2 a3 a4 post R47 M → R47 M) → (a1 < (1 : Int32) → R47 M) ∧ (¬ a1 < (1 : Int32) → ((10000 : Int32) < a1 → R47 M) ∧ (¬ (10000 : Int32) < a1 → (a2 < 0 → R47 M) ∧ (¬ a2 < 0 → ((24 : Int32) ≤ a2 → R47 M) ∧ (¬ (24 : Int32) ≤ a2 → (a3 ≤ a2 → R47 M) ∧ (¬ a3 ≤ a2 → ((24 : Int32) < a3 → R47 M) ∧ (¬ (24 : Int32) < a3 → (a4 < (1 : Int32) → R47 M) ∧ (¬ a4 < (1 : Int32) → (a4 ≤ (1000 : Int32) → (¬ (M.1 0 6) = (8 : Int32) → vp_in (M.1 0 6) 8 ∧ ∀ M11 : Mem, M11 = sA M 14 (M.1 0 6).toNatClampNeg a1 → vp_in (M11.1 0 6) 8 ∧ ∀ M13 : Mem, M13 = sA M11 15 (M11.1 0 6).toNatClampNeg a2 → vp_in (M13.1 0 6) 8 ∧ ∀ M15 : Mem, M15 = sA M13 16 (M13.1 0 6).toNatClampNeg a3 → vp_in (M15.1 0 6) 8 ∧ ∀ M17 : Mem, M17 = sA M15 17 (M15.1 0 6).toNatClampNeg a4 → ∀ M18 : Mem, M18 = sA M17 0 6 ((M17.1 0 6) + (1 : Int32)) → ∀ M19 : Mem, M19 = sA M18 0 0 (0 : Int32) → post ((M19.1 0 6) - (1 : Int32)) M19) ∧ ((M.1 0 6) = (8 : Int32) → qX7_refuse (4 : Int32) M (fun r20 M21 => post r20 M21))) ∧ (¬ a4 ≤ (1000 : Int32) → R47 M))))))))
def qX7_isIn (a1 : Int32) (a2 : Int32) (M : Mem) (post : Int32 → Mem → Prop) : Prop :=
  vp_in a1 8 ∧ (a2 < (M.1 15 a1.toNatClampNeg) → post (0 : Int32) M) ∧ (¬ a2 < (M.1 15 a1.toNatClampNeg) → vp_in a1 8 ∧ ((M.1 16 a1.toNatClampNeg) ≤ a2 → post (0 : Int32) M) ∧ (¬ (M.1 16 a1.toNatClampNeg) ≤ a2 → post (1 : Int32) M))
def qX7_goes_b121 (a1 : Int32) (a2 : Int32) (post : Int32 → Mem → Prop) (R121 : Mem → Prop) (R183 : Mem → Prop) (R221 : Mem → Prop)  (M : Mem) : Prop :=
  (a1 < (8 : Int32) → R183 M) ∧ (¬ a1 < (8 : Int32) → ((32 : Int32) ≤ a1 → R183 M) ∧ (¬ (32 : Int32) ≤ a1 → ((8 : Int32) ≤ a2 → R183 M) ∧ (¬ (8 : Int32) ≤ a2 → ((M.1 0 6) ≤ a2 → post (0 : Int32) M) ∧ (¬ (M.1 0 6) ≤ a2 → vp_in ((((24 : Int32) * a2) + a1) - (8 : Int32)) 192 ∧ (¬ (M.1 22 ((((24 : Int32) * a2) + a1) - (8 : Int32)).toNatClampNeg) = 0 → post (0 : Int32) M) ∧ ((M.1 22 ((((24 : Int32) * a2) + a1) - (8 : Int32)).toNatClampNeg) = 0 → vp_in ((((24 : Int32) * a2) + a1) - (8 : Int32)) 192 ∧ post (M.1 18 ((((24 : Int32) * a2) + a1) - (8 : Int32)).toNatClampNeg) M)))))
def qX7_goes_b183 (a1 : Int32) (a2 : Int32) (post : Int32 → Mem → Prop) (R121 : Mem → Prop) (R183 : Mem → Prop) (R221 : Mem → Prop)  (M : Mem) : Prop :=
  (a1 < (8 : Int32) → R221 M) ∧ (¬ a1 < (8 : Int32) → ((32 : Int32) ≤ a1 → R221 M) ∧ (¬ (32 : Int32) ≤ a1 → (¬ a2 = (32 : Int32) → R221 M) ∧ (a2 = (32 : Int32) → vp_in (a1 - (8 : Int32)) 24 ∧ vp_in (a1 - (8 : Int32)) 24 ∧ post ((M.1 19 (a1 - (8 : Int32)).toNatClampNeg) - (M.1 20 (a1 - (8 : Int32)).toNatClampNeg)) M)))
def qX7_goes_b221 (a1 : Int32) (a2 : Int32) (post : Int32 → Mem → Prop) (R121 : Mem → Prop) (R183 : Mem → Prop) (R221 : Mem → Prop)  (M : Mem) : Prop :=
  (¬ a1 = (32 : Int32) → post (0 : Int32) M) ∧ (a1 = (32 : Int32) → (a2 < (8 : Int32) → post (0 : Int32) M) ∧ (¬ a2 < (8 : Int32) → ((32 : Int32) ≤ a2 → post (0 : Int32) M) ∧ (¬ (32 : Int32) ≤ a2 → vp_in (a2 - (8 : Int32)) 24 ∧ post (M.1 20 (a2 - (8 : Int32)).toNatClampNeg) M)))
def qX7_goes (a1 : Int32) (a2 : Int32) (M : Mem) (post : Int32 → Mem → Prop) : Prop :=
  ∀ (R121 : Mem → Prop) (R183 : Mem → Prop) (R221 : Mem → Prop), (∀ M, qX7_goes_b121 a1 a2 post R121 R183 R221 M → R121 M) → (∀ M, qX7_goes_b183 a1 a2 post R121 R183 R221 M → R183 M) → (∀ M, qX7_goes_b221 a1 a2 post R121 R183 R221 M → R221 M) → (¬ a1 = (33 : Int32) → (¬ a2 = (33 : Int32) → ((8 : Int32) ≤ a1 → R121 M) ∧ (¬ (8 : Int32) ≤ a1 → (a2 < (8 : Int32) → R121 M) ∧ (¬ a2 < (8 : Int32) → ((32 : Int32) ≤ a2 → R121 M) ∧ (¬ (32 : Int32) ≤ a2 → ((M.1 0 6) ≤ a1 → post (0 : Int32) M) ∧ (¬ (M.1 0 6) ≤ a1 → qX7_isIn a1 (a2 - (8 : Int32)) M (fun r7 M8 => (r7 = 0 → post (0 : Int32) M8) ∧ (¬ r7 = 0 → vp_in ((((24 : Int32) * a1) + a2) - (8 : Int32)) 192 ∧ (¬ (M8.1 22 ((((24 : Int32) * a1) + a2) - (8 : Int32)).toNatClampNeg) = 0 → post (0 : Int32) M8) ∧ ((M8.1 22 ((((24 : Int32) * a1) + a2) - (8 : Int32)).toNatClampNeg) = 0 → vp_in a1 8 ∧ vp_in ((((24 : Int32) * a1) + a2) - (8 : Int32)) 192 ∧ post ((M8.1 17 a1.toNatClampNeg) - (M8.1 18 ((((24 : Int32) * a1) + a2) - (8 : Int32)).toNatClampNeg)) M8)))))))) ∧ (a2 = (33 : Int32) → post (0 : Int32) M)) ∧ (a1 = (33 : Int32) → ((M.1 0 6) ≤ a2 → post (0 : Int32) M) ∧ (¬ (M.1 0 6) ≤ a2 → vp_in a2 8 ∧ vp_in a2 8 ∧ post ((M.1 14 a2.toNatClampNeg) - (M.1 21 a2.toNatClampNeg)) M))
def qX7_moves (a1 : Int32) (a2 : Int32) (a3 : Int32) (M : Mem) (post : Mem → Prop) : Prop :=
  (¬ a1 = (33 : Int32) → ((8 : Int32) ≤ a1 → ((8 : Int32) ≤ a2 → (¬ a2 = (32 : Int32) → vp_in (a2 - (8 : Int32)) 24 ∧ vp_in (a2 - (8 : Int32)) 24 ∧ ∀ M7 : Mem, M7 = sA M 20 (a2 - (8 : Int32)).toNatClampNeg ((M.1 20 (a2 - (8 : Int32)).toNatClampNeg) - a3) → post M7) ∧ (a2 = (32 : Int32) → vp_in (a1 - (8 : Int32)) 24 ∧ vp_in (a1 - (8 : Int32)) 24 ∧ ∀ M10 : Mem, M10 = sA M 20 (a1 - (8 : Int32)).toNatClampNeg ((M.1 20 (a1 - (8 : Int32)).toNatClampNeg) + a3) → post M10)) ∧ (¬ (8 : Int32) ≤ a2 → vp_in ((((24 : Int32) * a2) + a1) - (8 : Int32)) 192 ∧ vp_in ((((24 : Int32) * a2) + a1) - (8 : Int32)) 192 ∧ ∀ M13 : Mem, M13 = sA M 18 ((((24 : Int32) * a2) + a1) - (8 : Int32)).toNatClampNeg ((M.1 18 ((((24 : Int32) * a2) + a1) - (8 : Int32)).toNatClampNeg) - a3) → post M13)) ∧ (¬ (8 : Int32) ≤ a1 → vp_in ((((24 : Int32) * a1) + a2) - (8 : Int32)) 192 ∧ vp_in ((((24 : Int32) * a1) + a2) - (8 : Int32)) 192 ∧ ∀ M16 : Mem, M16 = sA M 18 ((((24 : Int32) * a1) + a2) - (8 : Int32)).toNatClampNeg ((M.1 18 ((((24 : Int32) * a1) + a2) - (8 : Int32)).toNatClampNeg) + a3) → post M16)) ∧ (a1 = (33 : Int32) → vp_in a2 8 ∧ vp_in a2 8 ∧ ∀ M19 : Mem, M19 = sA M 21 a2.toNatClampNeg ((M.1 21 a2.toNatClampNeg) + a3) → post M19)
def qX7_isWay_b2 (a1 : Int32) (a2 : Int32) (post : Int32 → Mem → Prop) (R2 : Int32 → Mem → Prop) (R43 : Int32 → Int32 → Mem → Prop) (R62 : Int32 → Int32 → Int32 → Mem → Prop) (x3 : Int32) (M : Mem) : Prop :=
  ((nI 34) ≤ x3 → vp_in a1 34 ∧ ∀ M3 : Mem, M3 = sA M 23 a1.toNatClampNeg a1 → vp_in (0 : Int32) 34 ∧ ∀ M5 : Mem, M5 = sA M3 24 (0 : Int32).toNatClampNeg a1 → R43 (1 : Int32) (0 : Int32) M5) ∧ (¬ (nI 34) ≤ x3 → vp_in x3 34 ∧ ∀ M7 : Mem, M7 = sA M 23 x3.toNatClampNeg (-1 : Int32) → ∀ v8 : Int32, v8 = x3 + 1 → R2 v8 M7)
def qX7_isWay_b43 (a1 : Int32) (a2 : Int32) (post : Int32 → Mem → Prop) (R2 : Int32 → Mem → Prop) (R43 : Int32 → Int32 → Mem → Prop) (R62 : Int32 → Int32 → Int32 → Mem → Prop) (x3 : Int32) (x4 : Int32) (M : Mem) : Prop :=
  (x3 ≤ x4 → vp_in a2 34 ∧ ((M.1 23 a2.toNatClampNeg) = (-1 : Int32) → post (0 : Int32) M) ∧ (¬ (M.1 23 a2.toNatClampNeg) = (-1 : Int32) → post (1 : Int32) M)) ∧ (¬ x3 ≤ x4 → vp_in a2 34 ∧ (¬ (M.1 23 a2.toNatClampNeg) = (-1 : Int32) → vp_in a2 34 ∧ ((M.1 23 a2.toNatClampNeg) = (-1 : Int32) → post (0 : Int32) M) ∧ (¬ (M.1 23 a2.toNatClampNeg) = (-1 : Int32) → post (1 : Int32) M)) ∧ ((M.1 23 a2.toNatClampNeg) = (-1 : Int32) → R62 x3 x4 (0 : Int32) M))
def qX7_isWay_b62 (a1 : Int32) (a2 : Int32) (post : Int32 → Mem → Prop) (R2 : Int32 → Mem → Prop) (R43 : Int32 → Int32 → Mem → Prop) (R62 : Int32 → Int32 → Int32 → Mem → Prop) (x3 : Int32) (x4 : Int32) (x5 : Int32) (M : Mem) : Prop :=
  ((34 : Int32) ≤ x5 → ∀ v17 : Int32, v17 = x4 + 1 → R43 x3 v17 M) ∧ (¬ (34 : Int32) ≤ x5 → vp_in x5 34 ∧ (¬ (M.1 23 x5.toNatClampNeg) = (-1 : Int32) → ∀ v20 : Int32, v20 = x5 + 1 → R62 x3 x4 v20 M) ∧ ((M.1 23 x5.toNatClampNeg) = (-1 : Int32) → vp_in x4 34 ∧ qX7_goes (M.1 24 x4.toNatClampNeg) x5 M (fun r22 M23 => (¬ r22 = 0 → vp_in x4 34 ∧ vp_in x5 34 ∧ ∀ M27 : Mem, M27 = sA M23 23 x5.toNatClampNeg (M23.1 24 x4.toNatClampNeg) → vp_in x3 34 ∧ ∀ M29 : Mem, M29 = sA M27 24 x3.toNatClampNeg x5 → ∀ v30 : Int32, v30 = x3 + 1 → ∀ v31 : Int32, v31 = x5 + 1 → R62 v30 x4 v31 M29) ∧ (r22 = 0 → ∀ v32 : Int32, v32 = x5 + 1 → R62 x3 x4 v32 M23))))
def qX7_isWay (a1 : Int32) (a2 : Int32) (M : Mem) (post : Int32 → Mem → Prop) : Prop :=
  ∀ (R2 : Int32 → Mem → Prop) (R43 : Int32 → Int32 → Mem → Prop) (R62 : Int32 → Int32 → Int32 → Mem → Prop), (∀ x3 M, qX7_isWay_b2 a1 a2 post R2 R43 R62 x3 M → R2 x3 M) → (∀ x3 x4 M, qX7_isWay_b43 a1 a2 post R2 R43 R62 x3 x4 M → R43 x3 x4 M) → (∀ x3 x4 x5 M, qX7_isWay_b62 a1 a2 post R2 R43 R62 x3 x4 x5 M → R62 x3 x4 x5 M) → R2 (0 : Int32) M
def qX7_goAlong_b6 (a1 : Int32) (a2 : Int32) (a3 : Int32) (post : Int32 → Mem → Prop) (R6 : Int32 → Int32 → Mem → Prop) (R47 : Int32 → Int32 → Mem → Prop) (x4 : Int32) (x5 : Int32) (M : Mem) : Prop :=
  (x5 = a1 → R47 x4 a2 M) ∧ (¬ x5 = a1 → vp_in x5 34 ∧ qX7_goes (M.1 23 x5.toNatClampNeg) x5 M (fun r3 M4 => ∀ v5 : Int32, v5 = (jmin x4 r3) → vp_in x5 34 ∧ ∀ v7 : Int32, v7 = (M4.1 23 x5.toNatClampNeg) → R6 v5 v7 M4))
def qX7_goAlong_b47 (a1 : Int32) (a2 : Int32) (a3 : Int32) (post : Int32 → Mem → Prop) (R6 : Int32 → Int32 → Mem → Prop) (R47 : Int32 → Int32 → Mem → Prop) (x4 : Int32) (x5 : Int32) (M : Mem) : Prop :=
  (x5 = a1 → post x4 M) ∧ (¬ x5 = a1 → vp_in x5 34 ∧ qX7_moves (M.1 23 x5.toNatClampNeg) x5 x4 M (fun M11 => vp_in x5 34 ∧ ∀ v13 : Int32, v13 = (M11.1 23 x5.toNatClampNeg) → R47 x4 v13 M11))
def qX7_goAlong (a1 : Int32) (a2 : Int32) (a3 : Int32) (M : Mem) (post : Int32 → Mem → Prop) : Prop :=
  ∀ (R6 : Int32 → Int32 → Mem → Prop) (R47 : Int32 → Int32 → Mem → Prop), (∀ x4 x5 M, qX7_goAlong_b6 a1 a2 a3 post R6 R47 x4 x5 M → R6 x4 x5 M) → (∀ x4 x5 M, qX7_goAlong_b47 a1 a2 a3 post R6 R47 x4 x5 M → R47 x4 x5 M) → R6 a3 a2 M
def qX7_layIn_b9 (a1 : Int32) (post : Int32 → Mem → Prop) (R9 : Int32 → Int32 → Mem → Prop) (R42 : Int32 → Int32 → Mem → Prop) (R73 : Int32 → Int32 → Mem → Prop) (R103 : Int32 → Mem → Prop) (x2 : Int32) (x3 : Int32) (M : Mem) : Prop :=
  ((24 : Int32) ≤ x3 → R42 x2 (0 : Int32) M) ∧ (¬ (24 : Int32) ≤ x3 → qX7_leftOf x3 a1 M (fun r4 M5 => vp_in x3 24 ∧ ∀ M7 : Mem, M7 = sA M5 19 x3.toNatClampNeg r4 → vp_in x3 24 ∧ ∀ M9 : Mem, M9 = sA M7 20 x3.toNatClampNeg (0 : Int32) → ∀ v10 : Int32, v10 = x3 + 1 → R9 x2 v10 M9))
def qX7_layIn_b42 (a1 : Int32) (post : Int32 → Mem → Prop) (R9 : Int32 → Int32 → Mem → Prop) (R42 : Int32 → Int32 → Mem → Prop) (R73 : Int32 → Int32 → Mem → Prop) (R103 : Int32 → Mem → Prop) (x2 : Int32) (x3 : Int32) (M : Mem) : Prop :=
  ((nI 192) ≤ x3 → R73 x2 (0 : Int32) M) ∧ (¬ (nI 192) ≤ x3 → vp_in x3 192 ∧ ∀ M13 : Mem, M13 = sA M 18 x3.toNatClampNeg (0 : Int32) → vp_in x3 192 ∧ ∀ M15 : Mem, M15 = sA M13 22 x3.toNatClampNeg (vp_nar .boolean (0 : Int32)) → ∀ v16 : Int32, v16 = x3 + 1 → R42 x2 v16 M15)
def qX7_layIn_b73 (a1 : Int32) (post : Int32 → Mem → Prop) (R9 : Int32 → Int32 → Mem → Prop) (R42 : Int32 → Int32 → Mem → Prop) (R73 : Int32 → Int32 → Mem → Prop) (R103 : Int32 → Mem → Prop) (x2 : Int32) (x3 : Int32) (M : Mem) : Prop :=
  ((M.1 0 6) ≤ x3 → R103 x2 M) ∧ (¬ (M.1 0 6) ≤ x3 → vp_in x3 8 ∧ ∀ M19 : Mem, M19 = sA M 21 x3.toNatClampNeg (0 : Int32) → vp_in x3 8 ∧ ∀ v21 : Int32, v21 = (x2 + (M19.1 14 x3.toNatClampNeg)) → ∀ v22 : Int32, v22 = x3 + 1 → R73 v21 v22 M19)
def qX7_layIn_b103 (a1 : Int32) (post : Int32 → Mem → Prop) (R9 : Int32 → Int32 → Mem → Prop) (R42 : Int32 → Int32 → Mem → Prop) (R73 : Int32 → Int32 → Mem → Prop) (R103 : Int32 → Mem → Prop) (x2 : Int32) (M : Mem) : Prop :=
  qX7_isWay (33 : Int32) (32 : Int32) M (fun r23 M24 => (r23 = 0 → post x2 M24) ∧ (¬ r23 = 0 → qX7_goAlong (33 : Int32) (32 : Int32) (10000 : Int32) M24 (fun r26 M27 => ∀ v28 : Int32, v28 = (x2 - r26) → R103 v28 M27)))
def qX7_layIn (a1 : Int32) (M : Mem) (post : Int32 → Mem → Prop) : Prop :=
  ∀ (R9 : Int32 → Int32 → Mem → Prop) (R42 : Int32 → Int32 → Mem → Prop) (R73 : Int32 → Int32 → Mem → Prop) (R103 : Int32 → Mem → Prop), (∀ x2 x3 M, qX7_layIn_b9 a1 post R9 R42 R73 R103 x2 x3 M → R9 x2 x3 M) → (∀ x2 x3 M, qX7_layIn_b42 a1 post R9 R42 R73 R103 x2 x3 M → R42 x2 x3 M) → (∀ x2 x3 M, qX7_layIn_b73 a1 post R9 R42 R73 R103 x2 x3 M → R73 x2 x3 M) → (∀ x2 M, qX7_layIn_b103 a1 post R9 R42 R73 R103 x2 M → R103 x2 M) → qX7_look a1 M (fun M2 => R9 (0 : Int32) (0 : Int32) M2)
def qX7_rest (a1 : Int32) (M : Mem) (post : Int32 → Mem → Prop) : Prop :=
  qX7_isFall a1 M (fun r1 M2 => (¬ r1 = 0 → ∀ M4 : Mem, M4 = sA M2 0 0 (0 : Int32) → qX7_layIn a1 M4 (fun r5 M6 => post r5 M6)) ∧ (r1 = 0 → qX7_refuse (1 : Int32) M2 (fun r7 M8 => post r7 M8)))
def qX7_part_b55 (a1 : Int32) (a2 : Int32) (a3 : Int32) (post : Int32 → Mem → Prop) (R55 : Int32 → Mem → Prop) (R70 : Int32 → Int32 → Mem → Prop) (R100 : Int32 → Int32 → Int32 → Mem → Prop) (x4 : Int32) (M : Mem) : Prop :=
  (a2 < x4 → vp_in (((24 : Int32) * a2) + a3) 192 ∧ post (M.1 18 (((24 : Int32) * a2) + a3).toNatClampNeg) M) ∧ (¬ a2 < x4 → vp_in x4 8 ∧ ∀ v26 : Int32, v26 = (M.1 15 x4.toNatClampNeg) → R70 x4 v26 M)
def qX7_part_b70 (a1 : Int32) (a2 : Int32) (a3 : Int32) (post : Int32 → Mem → Prop) (R55 : Int32 → Mem → Prop) (R70 : Int32 → Int32 → Mem → Prop) (R100 : Int32 → Int32 → Int32 → Mem → Prop) (x4 : Int32) (x5 : Int32) (M : Mem) : Prop :=
  vp_in x4 8 ∧ ((M.1 16 x4.toNatClampNeg) ≤ x5 → ∀ v29 : Int32, v29 = x4 + 1 → R55 v29 M) ∧ (¬ (M.1 16 x4.toNatClampNeg) ≤ x5 → ∀ v30 : Int32, v30 = (((24 : Int32) * x4) + x5) → vp_in v30 192 ∧ ∀ M32 : Mem, M32 = sA M 22 v30.toNatClampNeg (vp_nar .boolean (1 : Int32)) → R100 x4 x5 v30 M32)
def qX7_part_b100 (a1 : Int32) (a2 : Int32) (a3 : Int32) (post : Int32 → Mem → Prop) (R55 : Int32 → Mem → Prop) (R70 : Int32 → Int32 → Mem → Prop) (R100 : Int32 → Int32 → Int32 → Mem → Prop) (x4 : Int32) (x5 : Int32) (x6 : Int32) (M : Mem) : Prop :=
  vp_in x6 192 ∧ vp_in x4 8 ∧ ((M.1 17 x4.toNatClampNeg) ≤ (M.1 18 x6.toNatClampNeg) → ∀ v36 : Int32, v36 = x5 + 1 → R70 x4 v36 M) ∧ (¬ (M.1 17 x4.toNatClampNeg) ≤ (M.1 18 x6.toNatClampNeg) → qX7_isWay ((8 : Int32) + x5) x4 M (fun r37 M38 => (r37 = 0 → ∀ v40 : Int32, v40 = x5 + 1 → R70 x4 v40 M38) ∧ (¬ r37 = 0 → vp_in x4 8 ∧ vp_in x6 192 ∧ qX7_goAlong ((8 : Int32) + x5) x4 ((M38.1 17 x4.toNatClampNeg) - (M38.1 18 x6.toNatClampNeg)) M38 (fun r43 M44 => vp_in x6 192 ∧ vp_in x6 192 ∧ ∀ M47 : Mem, M47 = sA M44 18 x6.toNatClampNeg ((M44.1 18 x6.toNatClampNeg) + r43) → R100 x4 x5 x6 M47))))
def qX7_part (a1 : Int32) (a2 : Int32) (a3 : Int32) (M : Mem) (post : Int32 → Mem → Prop) : Prop :=
  ∀ (R55 : Int32 → Mem → Prop) (R70 : Int32 → Int32 → Mem → Prop) (R100 : Int32 → Int32 → Int32 → Mem → Prop), (∀ x4 M, qX7_part_b55 a1 a2 a3 post R55 R70 R100 x4 M → R55 x4 M) → (∀ x4 x5 M, qX7_part_b70 a1 a2 a3 post R55 R70 R100 x4 x5 M → R70 x4 x5 M) → (∀ x4 x5 x6 M, qX7_part_b100 a1 a2 a3 post R55 R70 R100 x4 x5 x6 M → R100 x4 x5 x6 M) → qX7_isFall a1 M (fun r1 M2 => (r1 = 0 → qX7_refuse (1 : Int32) M2 (fun r4 M5 => post r4 M5)) ∧ (¬ r1 = 0 → (a2 < 0 → qX7_refuse (1 : Int32) M2 (fun r7 M8 => post r7 M8)) ∧ (¬ a2 < 0 → ((M2.1 0 6) ≤ a2 → qX7_refuse (1 : Int32) M2 (fun r10 M11 => post r10 M11)) ∧ (¬ (M2.1 0 6) ≤ a2 → qX7_isHour a3 M2 (fun r12 M13 => (¬ r12 = 0 → qX7_layIn a1 M13 (fun r15 M16 => (r15 ≤ 0 → ∀ M18 : Mem, M18 = sA M16 0 0 (0 : Int32) → R55 (0 : Int32) M18) ∧ (¬ r15 ≤ 0 → qX7_refuse (7 : Int32) M16 (fun r19 M20 => post r19 M20)))) ∧ (r12 = 0 → qX7_refuse (1 : Int32) M13 (fun r21 M22 => post r21 M22)))))))
def qX7_step_b28 (a1 : Int32) (a2 : Int32) (a3 : Int32) (a4 : Int32) (post : Mem → Prop) (R28 : Int32 → Mem → Prop) (R51 : Int32 → Mem → Prop) (R60 : Int32 → Int32 → Mem → Prop) (R84 : Int32 → Int32 → Int32 → Int32 → Mem → Prop) (R184 : Int32 → Int32 → Int32 → Int32 → Int32 → Int32 → Mem → Prop) (x5 : Int32) (M : Mem) : Prop :=
  (a3 ≤ x5 → R51 (0 : Int32) M) ∧ (¬ a3 ≤ x5 → vp_in x5 20 ∧ ∀ M8 : Mem, M8 = sA M 25 x5.toNatClampNeg (0 : Int32) → ∀ v9 : Int32, v9 = x5 + 1 → R28 v9 M8)
def qX7_step_b51 (a1 : Int32) (a2 : Int32) (a3 : Int32) (a4 : Int32) (post : Mem → Prop) (R28 : Int32 → Mem → Prop) (R51 : Int32 → Mem → Prop) (R60 : Int32 → Int32 → Mem → Prop) (R84 : Int32 → Int32 → Int32 → Int32 → Mem → Prop) (R184 : Int32 → Int32 → Int32 → Int32 → Int32 → Int32 → Mem → Prop) (x5 : Int32) (M : Mem) : Prop :=
  (a2 ≤ x5 → post M) ∧ (¬ a2 ≤ x5 → R60 x5 (0 : Int32) M)
def qX7_step_b60 (a1 : Int32) (a2 : Int32) (a3 : Int32) (a4 : Int32) (post : Mem → Prop) (R28 : Int32 → Mem → Prop) (R51 : Int32 → Mem → Prop) (R60 : Int32 → Int32 → Mem → Prop) (R84 : Int32 → Int32 → Int32 → Int32 → Mem → Prop) (R184 : Int32 → Int32 → Int32 → Int32 → Int32 → Int32 → Mem → Prop) (x5 : Int32) (x6 : Int32) (M : Mem) : Prop :=
  vp_in (((64 : Int32) * a1) + x5) 384 ∧ (((M.2 3 (((64 : Int32) * a1) + x5).toNatClampNeg).toInt32) ≤ x6 → ∀ v13 : Int32, v13 = x5 + 1 → R51 v13 M) ∧ (¬ ((M.2 3 (((64 : Int32) * a1) + x5).toNatClampNeg).toInt32) ≤ x6 → R84 x5 x6 (0 : Int32) (1 : Int32) M)
def qX7_step_b84 (a1 : Int32) (a2 : Int32) (a3 : Int32) (a4 : Int32) (post : Mem → Prop) (R28 : Int32 → Mem → Prop) (R51 : Int32 → Mem → Prop) (R60 : Int32 → Int32 → Mem → Prop) (R84 : Int32 → Int32 → Int32 → Int32 → Mem → Prop) (R184 : Int32 → Int32 → Int32 → Int32 → Int32 → Int32 → Mem → Prop) (x5 : Int32) (x6 : Int32) (x7 : Int32) (x8 : Int32) (M : Mem) : Prop :=
  (a3 ≤ x8 → vp_in x7 20 ∧ ∀ v16 : Int32, v16 = (jmax x5 (M.1 25 x7.toNatClampNeg)) → vp_in x7 20 ∧ ∀ M18 : Mem, M18 = sA M 25 x7.toNatClampNeg (v16 + a4) → ∀ M19 : Mem, M19 = sA M18 0 32 ((M18.1 0 32) + (1 : Int32)) → ∀ M20 : Mem, M20 = sA M19 0 31 ((M19.1 0 31) + (v16 - x5)) → (v16 ≤ x5 → R184 x5 x6 x7 v16 (0 : Int32) (M20.1 0 33) M20) ∧ (¬ v16 ≤ x5 → R184 x5 x6 x7 v16 (1 : Int32) (M20.1 0 33) M20)) ∧ (¬ a3 ≤ x8 → vp_in x8 20 ∧ vp_in x7 20 ∧ ((M.1 25 x7.toNatClampNeg) ≤ (M.1 25 x8.toNatClampNeg) → ∀ v25 : Int32, v25 = x8 + 1 → R84 x5 x6 x7 v25 M) ∧ (¬ (M.1 25 x7.toNatClampNeg) ≤ (M.1 25 x8.toNatClampNeg) → ∀ v26 : Int32, v26 = x8 + 1 → R84 x5 x6 x8 v26 M))
def qX7_step_b184 (a1 : Int32) (a2 : Int32) (a3 : Int32) (a4 : Int32) (post : Mem → Prop) (R28 : Int32 → Mem → Prop) (R51 : Int32 → Mem → Prop) (R60 : Int32 → Int32 → Mem → Prop) (R84 : Int32 → Int32 → Int32 → Int32 → Mem → Prop) (R184 : Int32 → Int32 → Int32 → Int32 → Int32 → Int32 → Mem → Prop) (x5 : Int32) (x6 : Int32) (x7 : Int32) (x8 : Int32) (s0 : Int32) (s1 : Int32) (M : Mem) : Prop :=
  ∀ M27 : Mem, M27 = sA M 0 33 (s1 + s0) → ∀ M28 : Mem, M28 = sA M27 0 30 (jmax (M27.1 0 30) (x8 - x5)) → vp_in x7 20 ∧ ∀ M30 : Mem, M30 = sA M28 0 34 (jmax (M28.1 0 34) (M28.1 25 x7.toNatClampNeg)) → ∀ v31 : Int32, v31 = x6 + 1 → R60 x5 v31 M30
def qX7_step (a1 : Int32) (a2 : Int32) (a3 : Int32) (a4 : Int32) (M : Mem) (post : Mem → Prop) : Prop :=
  ∀ (R28 : Int32 → Mem → Prop) (R51 : Int32 → Mem → Prop) (R60 : Int32 → Int32 → Mem → Prop) (R84 : Int32 → Int32 → Int32 → Int32 → Mem → Prop) (R184 : Int32 → Int32 → Int32 → Int32 → Int32 → Int32 → Mem → Prop), (∀ x5 M, qX7_step_b28 a1 a2 a3 a4 post R28 R51 R60 R84 R184 x5 M → R28 x5 M) → (∀ x5 M, qX7_step_b51 a1 a2 a3 a4 post R28 R51 R60 R84 R184 x5 M → R51 x5 M) → (∀ x5 x6 M, qX7_step_b60 a1 a2 a3 a4 post R28 R51 R60 R84 R184 x5 x6 M → R60 x5 x6 M) → (∀ x5 x6 x7 x8 M, qX7_step_b84 a1 a2 a3 a4 post R28 R51 R60 R84 R184 x5 x6 x7 x8 M → R84 x5 x6 x7 x8 M) → (∀ x5 x6 x7 x8 s0 s1 M, qX7_step_b184 a1 a2 a3 a4 post R28 R51 R60 R84 R184 x5 x6 x7 x8 s0 s1 M → R184 x5 x6 x7 x8 s0 s1 M) → ∀ M1 : Mem, M1 = sA M 0 30 (0 : Int32) → ∀ M2 : Mem, M2 = sA M1 0 31 (0 : Int32) → ∀ M3 : Mem, M3 = sA M2 0 32 (0 : Int32) → ∀ M4 : Mem, M4 = sA M3 0 33 (0 : Int32) → ∀ M5 : Mem, M5 = sA M4 0 34 (0 : Int32) → R28 (0 : Int32) M5
def qX7_line_b46 (a1 : Int32) (a2 : Int32) (a3 : Int32) (a4 : Int32) (a5 : Int32) (post : Int32 → Mem → Prop) (R46 : Mem → Prop) (R59 : Int32 → Mem → Prop)  (M : Mem) : Prop :=
  R59 (1 : Int32) M
def qX7_line_b59 (a1 : Int32) (a2 : Int32) (a3 : Int32) (a4 : Int32) (a5 : Int32) (post : Int32 → Mem → Prop) (R46 : Mem → Prop) (R59 : Int32 → Mem → Prop) (s0 : Int32) (M : Mem) : Prop :=
  (s0 ≤ 0 → qX7_step a1 a2 a3 a4 M (fun M13 => ∀ M14 : Mem, M14 = sA M13 0 0 (0 : Int32) → (¬ a5 = 0 → (¬ a5 = (1 : Int32) → (¬ a5 = (2 : Int32) → (¬ a5 = (3 : Int32) → post (M14.1 0 34) M14) ∧ (a5 = (3 : Int32) → post (M14.1 0 33) M14)) ∧ (a5 = (2 : Int32) → post (M14.1 0 32) M14)) ∧ (a5 = (1 : Int32) → post (M14.1 0 31) M14)) ∧ (a5 = 0 → post (M14.1 0 30) M14))) ∧ (¬ s0 ≤ 0 → qX7_refuse s0 M (fun r19 M20 => post r19 M20))
def qX7_line (a1 : Int32) (a2 : Int32) (a3 : Int32) (a4 : Int32) (a5 : Int32) (M : Mem) (post : Int32 → Mem → Prop) : Prop :=
  ∀ (R46 : Mem → Prop) (R59 : Int32 → Mem → Prop), (∀ M, qX7_line_b46 a1 a2 a3 a4 a5 post R46 R59 M → R46 M) → (∀ s0 M, qX7_line_b59 a1 a2 a3 a4 a5 post R46 R59 s0 M → R59 s0 M) → (a2 < (1 : Int32) → R46 M) ∧ (¬ a2 < (1 : Int32) → ((64 : Int32) < a2 → R46 M) ∧ (¬ (64 : Int32) < a2 → (a3 < (1 : Int32) → R46 M) ∧ (¬ a3 < (1 : Int32) → ((20 : Int32) < a3 → R46 M) ∧ (¬ (20 : Int32) < a3 → (a4 < (1 : Int32) → R46 M) ∧ (¬ a4 < (1 : Int32) → ((100 : Int32) < a4 → R46 M) ∧ (¬ (100 : Int32) < a4 → (a5 < 0 → R46 M) ∧ (¬ a5 < 0 → (a5 ≤ (4 : Int32) → qX7_wrongNumbers a1 a2 (100 : Int64) M (fun r9 M10 => R59 r9 M10)) ∧ (¬ a5 ≤ (4 : Int32) → R46 M))))))))
def qX7_hands_b35 (a1 : Int32) (a2 : Int32) (a3 : Int32) (a4 : Int32) (post : Int32 → Mem → Prop) (R35 : Mem → Prop) (R70 : Int32 → Mem → Prop)  (M : Mem) : Prop :=
  ((1 : Int32) ≤ 0 → ∀ M14 : Mem, M14 = sA M 0 0 (0 : Int32) → R70 (1 : Int32) M14) ∧ (¬ (1 : Int32) ≤ 0 → qX7_refuse (1 : Int32) M (fun r15 M16 => post r15 M16))
def qX7_hands_b70 (a1 : Int32) (a2 : Int32) (a3 : Int32) (a4 : Int32) (post : Int32 → Mem → Prop) (R35 : Mem → Prop) (R70 : Int32 → Mem → Prop) (x6 : Int32) (M : Mem) : Prop :=
  ((20 : Int32) < x6 → qX7_refuse (7 : Int32) M (fun r18 M19 => post r18 M19)) ∧ (¬ (20 : Int32) < x6 → qX7_step a1 a2 x6 a3 M (fun M21 => (a4 < (M21.1 0 30) → ∀ v23 : Int32, v23 = x6 + 1 → R70 v23 M21) ∧ (¬ a4 < (M21.1 0 30) → post x6 M21)))
def qX7_hands (a1 : Int32) (a2 : Int32) (a3 : Int32) (a4 : Int32) (M : Mem) (post : Int32 → Mem → Prop) : Prop :=
  ∀ (R35 : Mem → Prop) (R70 : Int32 → Mem → Prop), (∀ M, qX7_hands_b35 a1 a2 a3 a4 post R35 R70 M → R35 M) → (∀ x6 M, qX7_hands_b70 a1 a2 a3 a4 post R35 R70 x6 M → R70 x6 M) → (a2 < (1 : Int32) → R35 M) ∧ (¬ a2 < (1 : Int32) → ((64 : Int32) < a2 → R35 M) ∧ (¬ (64 : Int32) < a2 → (a3 < (1 : Int32) → R35 M) ∧ (¬ a3 < (1 : Int32) → ((100 : Int32) < a3 → R35 M) ∧ (¬ (100 : Int32) < a3 → (a4 < 0 → R35 M) ∧ (¬ a4 < 0 → (a4 ≤ (10000 : Int32) → qX7_wrongNumbers a1 a2 (100 : Int64) M (fun r7 M8 => (r7 ≤ 0 → ∀ M10 : Mem, M10 = sA M8 0 0 (0 : Int32) → R70 (1 : Int32) M10) ∧ (¬ r7 ≤ 0 → qX7_refuse r7 M8 (fun r11 M12 => post r11 M12)))) ∧ (¬ a4 ≤ (10000 : Int32) → R35 M))))))
def qX7_wanted_b23 (a1 : Int32) (post : Int32 → Mem → Prop) (R23 : Int32 → Mem → Prop) (x3 : Int32) (M : Mem) : Prop :=
  ((12 : Int32) ≤ x3 → qX7_is (0 : Int32) M (fun r7 M8 => zb r7 ∧ post r7 M8)) ∧ (¬ (12 : Int32) ≤ x3 → vp_in (((64 : Int32) * a1) + x3) 384 ∧ vp_in x3 12 ∧ ∀ M11 : Mem, M11 = sA M 26 x3.toNatClampNeg ((M.2 3 (((64 : Int32) * a1) + x3).toNatClampNeg).toInt32) → ∀ v12 : Int32, v12 = x3 + 1 → R23 v12 M11)
def qX7_wanted (a1 : Int32) (M : Mem) (post : Int32 → Mem → Prop) : Prop :=
  ∀ (R23 : Int32 → Mem → Prop), (∀ x3 M, qX7_wanted_b23 a1 post R23 x3 M → R23 x3 M) → qX7_wrongNumbers a1 (12 : Int32) (500 : Int64) M (fun r1 M2 => (r1 ≤ 0 → R23 (0 : Int32) M2) ∧ (¬ r1 ≤ 0 → qX7_is r1 M2 (fun r4 M5 => zb r4 ∧ post r4 M5)))
def qX7_have (a1 : Int32) (M : Mem) (post : Int32 → Mem → Prop) : Prop :=
  (a1 < 0 → qX7_is (1 : Int32) M (fun r2 M3 => zb r2 ∧ post r2 M3)) ∧ (¬ a1 < 0 → (a1 ≤ (500 : Int32) → ∀ M5 : Mem, M5 = sA M 0 40 a1 → qX7_is (0 : Int32) M5 (fun r6 M7 => zb r6 ∧ post r6 M7)) ∧ (¬ a1 ≤ (500 : Int32) → qX7_is (1 : Int32) M (fun r8 M9 => zb r8 ∧ post r8 M9)))
def qX7_type_b34 (a1 : Int32) (a2 : Int32) (a3 : Int32) (a4 : Int32) (post : Int32 → Mem → Prop) (R34 : Mem → Prop) (R66 : Int32 → Mem → Prop) (R112 : Int32 → Mem → Prop)  (M : Mem) : Prop :=
  (¬ (1 : Int32) = 0 → R66 (1 : Int32) M) ∧ ((1 : Int32) = 0 → (¬ (M.1 0 7) = (4 : Int32) → R66 (1 : Int32) M) ∧ ((M.1 0 7) = (4 : Int32) → R66 (4 : Int32) M))
def qX7_type_b66 (a1 : Int32) (a2 : Int32) (a3 : Int32) (a4 : Int32) (post : Int32 → Mem → Prop) (R34 : Mem → Prop) (R66 : Int32 → Mem → Prop) (R112 : Int32 → Mem → Prop) (x5 : Int32) (M : Mem) : Prop :=
  (x5 ≤ 0 → vp_in (M.1 0 7) 4 ∧ ∀ M15 : Mem, M15 = sA M 27 (M.1 0 7).toNatClampNeg a1 → vp_in (M15.1 0 7) 4 ∧ ∀ M17 : Mem, M17 = sA M15 28 (M15.1 0 7).toNatClampNeg a2 → vp_in (M17.1 0 7) 4 ∧ ∀ M19 : Mem, M19 = sA M17 29 (M17.1 0 7).toNatClampNeg a4 → R112 (0 : Int32) M19) ∧ (¬ x5 ≤ 0 → qX7_refuse x5 M (fun r20 M21 => post r20 M21))
def qX7_type_b112 (a1 : Int32) (a2 : Int32) (a3 : Int32) (a4 : Int32) (post : Int32 → Mem → Prop) (R34 : Mem → Prop) (R66 : Int32 → Mem → Prop) (R112 : Int32 → Mem → Prop) (x6 : Int32) (M : Mem) : Prop :=
  ((12 : Int32) ≤ x6 → ∀ M23 : Mem, M23 = sA M 0 7 ((M.1 0 7) + (1 : Int32)) → ∀ M24 : Mem, M24 = sA M23 0 0 (0 : Int32) → post ((M24.1 0 7) - (1 : Int32)) M24) ∧ (¬ (12 : Int32) ≤ x6 → vp_in (((64 : Int32) * a3) + x6) 384 ∧ vp_in (((12 : Int32) * (M.1 0 7)) + x6) 48 ∧ ∀ M27 : Mem, M27 = sA M 30 (((12 : Int32) * (M.1 0 7)) + x6).toNatClampNeg ((M.2 3 (((64 : Int32) * a3) + x6).toNatClampNeg).toInt32) → ∀ v28 : Int32, v28 = x6 + 1 → R112 v28 M27)
def qX7_type (a1 : Int32) (a2 : Int32) (a3 : Int32) (a4 : Int32) (M : Mem) (post : Int32 → Mem → Prop) : Prop :=
  ∀ (R34 : Mem → Prop) (R66 : Int32 → Mem → Prop) (R112 : Int32 → Mem → Prop), (∀ M, qX7_type_b34 a1 a2 a3 a4 post R34 R66 R112 M → R34 M) → (∀ x5 M, qX7_type_b66 a1 a2 a3 a4 post R34 R66 R112 x5 M → R66 x5 M) → (∀ x6 M, qX7_type_b112 a1 a2 a3 a4 post R34 R66 R112 x6 M → R112 x6 M) → (a1 < (1 : Int32) → R34 M) ∧ (¬ a1 < (1 : Int32) → ((100 : Int32) < a1 → R34 M) ∧ (¬ (100 : Int32) < a1 → (a2 < 0 → R34 M) ∧ (¬ a2 < 0 → ((11 : Int32) < a2 → R34 M) ∧ (¬ (11 : Int32) < a2 → (a4 < 0 → R34 M) ∧ (¬ a4 < 0 → (a4 ≤ (1000 : Int32) → qX7_wrongNumbers a3 (12 : Int32) (100000 : Int64) M (fun r7 M8 => (¬ r7 = 0 → R66 r7 M8) ∧ (r7 = 0 → (¬ (M8.1 0 7) = (4 : Int32) → R66 r7 M8) ∧ ((M8.1 0 7) = (4 : Int32) → R66 (4 : Int32) M8)))) ∧ (¬ a4 ≤ (1000 : Int32) → R34 M))))))
def qX7_at (a0 : Int32) (a1 : Int32) (a2 : Int32) (M : Mem) (post : Int32 → Mem → Prop) : Prop :=
  post (((501 : Int32) * (((4 : Int32) * a0) + a1)) + a2) M
def qX7_takes (a1 : Int32) (a2 : Int32) (M : Mem) (post : Int32 → Mem → Prop) : Prop :=
  vp_in a1 4 ∧ vp_in ((((12 : Int32) * a1) + a2) - (M.1 28 a1.toNatClampNeg)) 48 ∧ vp_in a1 4 ∧ post ((M.1 30 ((((12 : Int32) * a1) + a2) - (M.1 28 a1.toNatClampNeg)).toNatClampNeg) + ((M.1 29 a1.toNatClampNeg) * ((12 : Int32) - a2))) M
def qX7_reckon_b2  (post : Mem → Prop) (R2 : Int32 → Mem → Prop) (R31 : Int32 → Mem → Prop) (R37 : Int32 → Int32 → Mem → Prop) (R45 : Int32 → Int32 → Int32 → Mem → Prop) (R98 : Int32 → Int32 → Int32 → Int32 → Mem → Prop) (R174 : Int32 → Int32 → Int32 → Int32 → Mem → Prop) (x1 : Int32) (M : Mem) : Prop :=
  ((500 : Int32) < x1 → R31 (11 : Int32) M) ∧ (¬ (500 : Int32) < x1 → qX7_at (12 : Int32) (0 : Int32) x1 M (fun r2 M3 => vp_in r2 24549 ∧ ∀ M5 : Mem, M5 = sA M3 31 r2.toNatClampNeg (0 : Int32) → ∀ v6 : Int32, v6 = x1 + 1 → R2 v6 M5))
def qX7_reckon_b31  (post : Mem → Prop) (R2 : Int32 → Mem → Prop) (R31 : Int32 → Mem → Prop) (R37 : Int32 → Int32 → Mem → Prop) (R45 : Int32 → Int32 → Int32 → Mem → Prop) (R98 : Int32 → Int32 → Int32 → Int32 → Mem → Prop) (R174 : Int32 → Int32 → Int32 → Int32 → Mem → Prop) (x1 : Int32) (M : Mem) : Prop :=
  (x1 < 0 → post M) ∧ (¬ x1 < 0 → R37 x1 (3 : Int32) M)
def qX7_reckon_b37  (post : Mem → Prop) (R2 : Int32 → Mem → Prop) (R31 : Int32 → Mem → Prop) (R37 : Int32 → Int32 → Mem → Prop) (R45 : Int32 → Int32 → Int32 → Mem → Prop) (R98 : Int32 → Int32 → Int32 → Int32 → Mem → Prop) (R174 : Int32 → Int32 → Int32 → Int32 → Mem → Prop) (x1 : Int32) (x2 : Int32) (M : Mem) : Prop :=
  (x2 < 0 → ∀ v9 : Int32, v9 = x1 + (-1) → R31 v9 M) ∧ (¬ x2 < 0 → R45 x1 x2 (500 : Int32) M)
def qX7_reckon_b45  (post : Mem → Prop) (R2 : Int32 → Mem → Prop) (R31 : Int32 → Mem → Prop) (R37 : Int32 → Int32 → Mem → Prop) (R45 : Int32 → Int32 → Int32 → Mem → Prop) (R98 : Int32 → Int32 → Int32 → Int32 → Mem → Prop) (R174 : Int32 → Int32 → Int32 → Int32 → Mem → Prop) (x1 : Int32) (x2 : Int32) (x3 : Int32) (M : Mem) : Prop :=
  (x3 < 0 → ∀ v11 : Int32, v11 = x2 + (-1) → R37 x1 v11 M) ∧ (¬ x3 < 0 → ((3 : Int32) ≤ x2 → vp_in x1 12 ∧ (x3 < (M.1 26 x1.toNatClampNeg) → R98 x1 x2 x3 (2000000000 : Int32) M) ∧ (¬ x3 < (M.1 26 x1.toNatClampNeg) → qX7_at (x1 + (1 : Int32)) (0 : Int32) x3 M (fun r15 M16 => vp_in r15 24549 ∧ R98 x1 x2 x3 (M16.1 31 r15.toNatClampNeg) M16))) ∧ (¬ (3 : Int32) ≤ x2 → qX7_at x1 (x2 + (1 : Int32)) x3 M (fun r18 M19 => vp_in r18 24549 ∧ R98 x1 x2 x3 (M19.1 31 r18.toNatClampNeg) M19)))
def qX7_reckon_b98  (post : Mem → Prop) (R2 : Int32 → Mem → Prop) (R31 : Int32 → Mem → Prop) (R37 : Int32 → Int32 → Mem → Prop) (R45 : Int32 → Int32 → Int32 → Mem → Prop) (R98 : Int32 → Int32 → Int32 → Int32 → Mem → Prop) (R174 : Int32 → Int32 → Int32 → Int32 → Mem → Prop) (x1 : Int32) (x2 : Int32) (x3 : Int32) (s0 : Int32) (M : Mem) : Prop :=
  ((M.1 0 7) ≤ x2 → R174 x1 x2 x3 s0 M) ∧ (¬ (M.1 0 7) ≤ x2 → vp_in x2 4 ∧ (x1 < (M.1 28 x2.toNatClampNeg) → R174 x1 x2 x3 s0 M) ∧ (¬ x1 < (M.1 28 x2.toNatClampNeg) → ((500 : Int32) ≤ x3 → R174 x1 x2 x3 s0 M) ∧ (¬ (500 : Int32) ≤ x3 → vp_in x2 4 ∧ qX7_at x1 x2 (jmin (500 : Int32) (x3 + (M.1 27 x2.toNatClampNeg))) M (fun r26 M27 => vp_in r26 24549 ∧ ∀ v29 : Int32, v29 = (M27.1 31 r26.toNatClampNeg) → ((2000000000 : Int32) ≤ v29 → R174 x1 x2 x3 s0 M27) ∧ (¬ (2000000000 : Int32) ≤ v29 → qX7_takes x2 x1 M27 (fun r31 M32 => ∀ v33 : Int32, v33 = (jmin s0 (v29 + r31)) → R174 x1 x2 x3 v33 M32))))))
def qX7_reckon_b174  (post : Mem → Prop) (R2 : Int32 → Mem → Prop) (R31 : Int32 → Mem → Prop) (R37 : Int32 → Int32 → Mem → Prop) (R45 : Int32 → Int32 → Int32 → Mem → Prop) (R98 : Int32 → Int32 → Int32 → Int32 → Mem → Prop) (R174 : Int32 → Int32 → Int32 → Int32 → Mem → Prop) (x1 : Int32) (x2 : Int32) (x3 : Int32) (x4 : Int32) (M : Mem) : Prop :=
  qX7_at x1 x2 x3 M (fun r34 M35 => vp_in r34 24549 ∧ ∀ M37 : Mem, M37 = sA M35 31 r34.toNatClampNeg x4 → ∀ v38 : Int32, v38 = x3 + (-1) → R45 x1 x2 v38 M37)
def qX7_reckon  (M : Mem) (post : Mem → Prop) : Prop :=
  ∀ (R2 : Int32 → Mem → Prop) (R31 : Int32 → Mem → Prop) (R37 : Int32 → Int32 → Mem → Prop) (R45 : Int32 → Int32 → Int32 → Mem → Prop) (R98 : Int32 → Int32 → Int32 → Int32 → Mem → Prop) (R174 : Int32 → Int32 → Int32 → Int32 → Mem → Prop), (∀ x1 M, qX7_reckon_b2 post R2 R31 R37 R45 R98 R174 x1 M → R2 x1 M) → (∀ x1 M, qX7_reckon_b31 post R2 R31 R37 R45 R98 R174 x1 M → R31 x1 M) → (∀ x1 x2 M, qX7_reckon_b37 post R2 R31 R37 R45 R98 R174 x1 x2 M → R37 x1 x2 M) → (∀ x1 x2 x3 M, qX7_reckon_b45 post R2 R31 R37 R45 R98 R174 x1 x2 x3 M → R45 x1 x2 x3 M) → (∀ x1 x2 x3 s0 M, qX7_reckon_b98 post R2 R31 R37 R45 R98 R174 x1 x2 x3 s0 M → R98 x1 x2 x3 s0 M) → (∀ x1 x2 x3 x4 M, qX7_reckon_b174 post R2 R31 R37 R45 R98 R174 x1 x2 x3 x4 M → R174 x1 x2 x3 x4 M) → R2 (0 : Int32) M
def qX7_cheapest  (M : Mem) (post : Int32 → Mem → Prop) : Prop :=
  qX7_reckon M (fun M2 => qX7_at (0 : Int32) (0 : Int32) (M2.1 0 40) M2 (fun r3 M4 => vp_in r3 24549 ∧ ∀ v6 : Int32, v6 = (M4.1 31 r3.toNatClampNeg) → (¬ v6 = (2000000000 : Int32) → ∀ M8 : Mem, M8 = sA M4 0 0 (0 : Int32) → post v6 M8) ∧ (v6 = (2000000000 : Int32) → qX7_refuse (7 : Int32) M4 (fun r9 M10 => post r9 M10))))
def qX7_buys_b71 (a1 : Int32) (a2 : Int32) (post : Int32 → Mem → Prop) (R71 : Int32 → Int32 → Mem → Prop) (R81 : Int32 → Int32 → Int32 → Mem → Prop) (R90 : Int32 → Int32 → Int32 → Int32 → Mem → Prop) (R157 : Int32 → Int32 → Int32 → Int32 → Int32 → Int32 → Mem → Prop) (x3 : Int32) (x4 : Int32) (M : Mem) : Prop :=
  ((12 : Int32) ≤ x4 → post (-1 : Int32) M) ∧ (¬ (12 : Int32) ≤ x4 → R81 x3 x4 (0 : Int32) M)
def qX7_buys_b81 (a1 : Int32) (a2 : Int32) (post : Int32 → Mem → Prop) (R71 : Int32 → Int32 → Mem → Prop) (R81 : Int32 → Int32 → Int32 → Mem → Prop) (R90 : Int32 → Int32 → Int32 → Int32 → Mem → Prop) (R157 : Int32 → Int32 → Int32 → Int32 → Int32 → Int32 → Mem → Prop) (x3 : Int32) (x4 : Int32) (x5 : Int32) (M : Mem) : Prop :=
  ((4 : Int32) ≤ x5 → ∀ v25 : Int32, v25 = x4 + 1 → R71 x3 v25 M) ∧ (¬ (4 : Int32) ≤ x5 → R90 x3 x4 x5 (0 : Int32) M)
def qX7_buys_b90 (a1 : Int32) (a2 : Int32) (post : Int32 → Mem → Prop) (R71 : Int32 → Int32 → Mem → Prop) (R81 : Int32 → Int32 → Int32 → Mem → Prop) (R90 : Int32 → Int32 → Int32 → Int32 → Mem → Prop) (R157 : Int32 → Int32 → Int32 → Int32 → Int32 → Int32 → Mem → Prop) (x3 : Int32) (x4 : Int32) (x5 : Int32) (x6 : Int32) (M : Mem) : Prop :=
  qX7_at x4 x5 x3 M (fun r26 M27 => vp_in r26 24549 ∧ ((3 : Int32) ≤ x5 → vp_in x4 12 ∧ (x3 < (M27.1 26 x4.toNatClampNeg) → R157 x3 x4 x5 x6 (2000000000 : Int32) (M27.1 31 r26.toNatClampNeg) M27) ∧ (¬ x3 < (M27.1 26 x4.toNatClampNeg) → qX7_at (x4 + (1 : Int32)) (0 : Int32) x3 M27 (fun r32 M33 => vp_in r32 24549 ∧ R157 x3 x4 x5 x6 (M33.1 31 r32.toNatClampNeg) (M27.1 31 r26.toNatClampNeg) M33))) ∧ (¬ (3 : Int32) ≤ x5 → qX7_at x4 (x5 + (1 : Int32)) x3 M27 (fun r35 M36 => vp_in r35 24549 ∧ R157 x3 x4 x5 x6 (M36.1 31 r35.toNatClampNeg) (M27.1 31 r26.toNatClampNeg) M36)))
def qX7_buys_b157 (a1 : Int32) (a2 : Int32) (post : Int32 → Mem → Prop) (R71 : Int32 → Int32 → Mem → Prop) (R81 : Int32 → Int32 → Int32 → Mem → Prop) (R90 : Int32 → Int32 → Int32 → Int32 → Mem → Prop) (R157 : Int32 → Int32 → Int32 → Int32 → Int32 → Int32 → Mem → Prop) (x3 : Int32) (x4 : Int32) (x5 : Int32) (x6 : Int32) (s0 : Int32) (s1 : Int32) (M : Mem) : Prop :=
  (s0 ≤ s1 → (¬ x4 = a1 → ∀ v40 : Int32, v40 = x5 + 1 → R81 x3 x4 v40 M) ∧ (x4 = a1 → (¬ x5 = a2 → ∀ v42 : Int32, v42 = x5 + 1 → R81 x3 x4 v42 M) ∧ (x5 = a2 → post x6 M))) ∧ (¬ s0 ≤ s1 → vp_in x5 4 ∧ ∀ v44 : Int32, v44 = (jmin (500 : Int32) (x3 + (M.1 27 x5.toNatClampNeg))) → ∀ v45 : Int32, v45 = x6 + 1 → R90 v44 x4 x5 v45 M)
def qX7_buys (a1 : Int32) (a2 : Int32) (M : Mem) (post : Int32 → Mem → Prop) : Prop :=
  ∀ (R71 : Int32 → Int32 → Mem → Prop) (R81 : Int32 → Int32 → Int32 → Mem → Prop) (R90 : Int32 → Int32 → Int32 → Int32 → Mem → Prop) (R157 : Int32 → Int32 → Int32 → Int32 → Int32 → Int32 → Mem → Prop), (∀ x3 x4 M, qX7_buys_b71 a1 a2 post R71 R81 R90 R157 x3 x4 M → R71 x3 x4 M) → (∀ x3 x4 x5 M, qX7_buys_b81 a1 a2 post R71 R81 R90 R157 x3 x4 x5 M → R81 x3 x4 x5 M) → (∀ x3 x4 x5 x6 M, qX7_buys_b90 a1 a2 post R71 R81 R90 R157 x3 x4 x5 x6 M → R90 x3 x4 x5 x6 M) → (∀ x3 x4 x5 x6 s0 s1 M, qX7_buys_b157 a1 a2 post R71 R81 R90 R157 x3 x4 x5 x6 s0 s1 M → R157 x3 x4 x5 x6 s0 s1 M) → (a1 < 0 → qX7_refuse (1 : Int32) M (fun r2 M3 => post r2 M3)) ∧ (¬ a1 < 0 → ((12 : Int32) ≤ a1 → qX7_refuse (1 : Int32) M (fun r5 M6 => post r5 M6)) ∧ (¬ (12 : Int32) ≤ a1 → (a2 < 0 → qX7_refuse (1 : Int32) M (fun r8 M9 => post r8 M9)) ∧ (¬ a2 < 0 → (a2 < (M.1 0 7) → qX7_reckon M (fun M12 => qX7_at (0 : Int32) (0 : Int32) (M12.1 0 40) M12 (fun r13 M14 => vp_in r13 24549 ∧ (¬ (M14.1 31 r13.toNatClampNeg) = (2000000000 : Int32) → ∀ M17 : Mem, M17 = sA M14 0 0 (0 : Int32) → ∀ v18 : Int32, v18 = (M17.1 0 40) → R71 v18 (0 : Int32) M17) ∧ ((M14.1 31 r13.toNatClampNeg) = (2000000000 : Int32) → qX7_refuse (7 : Int32) M14 (fun r19 M20 => post r19 M20))))) ∧ (¬ a2 < (M.1 0 7) → qX7_refuse (1 : Int32) M (fun r21 M22 => post r21 M22)))))
