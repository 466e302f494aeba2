/-! the cells of a new object of the class, as the world of part 08 -/
def nu0 (g : Nat → Int) : Mem := fun k j => if k = 2 then g j else if k = 14 ∨ k = 21 ∨ k = 30 ∨ k = 37 ∨ k = 44 ∨ k = 51 ∨ k = 58 then (if j < 8 then (j : Int) + 1 else 0) else if k = 63 then (if j = 3 then -1 else 0) else if k = 66 then (if j = 2 then 1 else 0) else 0
def adX (stat : Nat → Nat) (q : Nat) (f : Nat → Nat) : Nat → Nat := fun k => if 1000 ≤ k then stat k else if k = 0 then q else f k
def sysC (stat : Nat → Nat) (ca : Nat → ClassId) (q : Nat) (u : (Nat → Nat) × (Nat → Int)) : va_W := wd shX (adX stat q u.1) ca (nu0 u.2)
theorem va_P_swap {D : va_G} {cl : List vw_C} {ws : va_W} {H : Heap} {k a : Nat} {e e' : va_E} (h : va_P D cl ws H) (he : ws[k]? = some (a, e)) (hat : va_at D cl (a, e') H) : va_P D cl (ws.set k (a, e')) H := by
  intro i x hx
  by_cases c : i = k
  · subst c
    rw [List.getElem?_set_self (List.getElem?_eq_some_iff.mp he).1] at hx
    cases hx
    exact hat
  · rw [List.getElem?_set_ne (Ne.symm c)] at hx
    exact h i x hx
theorem arrV_cong {cI : ClassId} {N : Nat} {f g : Nat → Value} (h : ∀ j, j < N → f j = g j) : arrV cI N f = arrV cI N g := by
  unfold arrV
  have e : (fun j : Fin N => f j.val) = fun j => g j.val := funext fun j => h j.val j.isLt
  rw [e]
def hisF (u : Nat → Nat) : Nat → Option Nat := (va_up (va_up (va_up (va_up (va_up (fun _ => none) 0 (some (u 1))) 1 (some (u 8))) 2 (some (u 15))) 3 (some (u 22))) 4 (some (u 29)))

def sysL (ca : Nat → ClassId) (q q1 q2 q3 q4 q5 q6 q7 q8 : Nat) (u1 : Nat × (Nat → Int)) (u2 u3 u4 u5 u6 u7 u8 : Nat → Nat) : va_W := [(q, .inr (7, [.ref q1, .ref q2, .ref q3, .ref q4, .int (Int32.ofInt 0), .ref q5, .ref q6, .ref q7, .ref q8])), (q1, .inr (3, [.ref u1.1])), (u1.1, .inl (ca 1, 6561, .inl fun k => Int32.ofInt (u1.2 k))), (q2, .inr (5, [.ref q1, .ref (u2 0), .int (Int32.ofInt 0), .int (Int32.ofInt 0), .ref (u2 1), .ref (u2 2), .ref (u2 3), .ref (u2 4), .ref (u2 5)])), ((u2 0), .inl (ca 0, 8, .inl fun _ => Int32.ofInt 0)), ((u2 1), .inl (ca 0, 8, .inl fun _ => Int32.ofInt 0)), ((u2 2), .inl (ca 0, 8, .inl fun _ => Int32.ofInt 0)), ((u2 3), .inl (ca 0, 8, .inl fun _ => Int32.ofInt 0)), ((u2 4), .inl (ca 0, 81, .inl fun _ => Int32.ofInt 0)), ((u2 5), .inl (ca 0, 81, .inl fun _ => Int32.ofInt 0)), (q3, .inr (4, [.ref (u3 0), .ref (u3 1), .int (Int32.ofInt 0), .int (Int32.ofInt 0), .ref (u3 2), .int (Int32.ofInt 0), .ref (u3 3), .ref (u3 4), .int (Int32.ofInt 0), .ref (u3 5)])), ((u3 0), .inl (ca 0, 12, .inl fun _ => Int32.ofInt 0)), ((u3 1), .inl (ca 0, 12, .inl fun _ => Int32.ofInt 0)), ((u3 2), .inl (ca 0, 8, .inl fun _ => Int32.ofInt 0)), ((u3 3), .inl (ca 0, 8, .inl (prF 8))), ((u3 4), .inl (ca 0, 8, .inl fun _ => Int32.ofInt 0)), ((u3 5), .inl (ca 0, 8, .inl fun _ => Int32.ofInt 0)), (q4, .inr (4, [.ref (u4 0), .ref (u4 1), .int (Int32.ofInt 0), .int (Int32.ofInt 0), .ref (u4 2), .int (Int32.ofInt 0), .ref (u4 3), .ref (u4 4), .int (Int32.ofInt 0), .ref (u4 5)])), ((u4 0), .inl (ca 0, 12, .inl fun _ => Int32.ofInt 0)), ((u4 1), .inl (ca 0, 12, .inl fun _ => Int32.ofInt 0)), ((u4 2), .inl (ca 0, 8, .inl fun _ => Int32.ofInt 0)), ((u4 3), .inl (ca 0, 8, .inl (prF 8))), ((u4 4), .inl (ca 0, 8, .inl fun _ => Int32.ofInt 0)), ((u4 5), .inl (ca 0, 8, .inl fun _ => Int32.ofInt 0)), (q5, .inr (2, [.ref (u5 0), .int (Int32.ofInt 0), .int (Int32.ofInt 0)])), (u5 0, .inl (ca 5, 5, .inr (.inr (.inr (.inr (hisF u5)))))), ((u5 1), .inr (4, [.ref (u5 2), .ref (u5 3), .int (Int32.ofInt 0), .int (Int32.ofInt 0), .ref (u5 4), .int (Int32.ofInt 0), .ref (u5 5), .ref (u5 6), .int (Int32.ofInt 0), .ref (u5 7)])), ((u5 2), .inl (ca 0, 12, .inl fun _ => Int32.ofInt 0)), ((u5 3), .inl (ca 0, 12, .inl fun _ => Int32.ofInt 0)), ((u5 4), .inl (ca 0, 8, .inl fun _ => Int32.ofInt 0)), ((u5 5), .inl (ca 0, 8, .inl (prF 8))), ((u5 6), .inl (ca 0, 8, .inl fun _ => Int32.ofInt 0)), ((u5 7), .inl (ca 0, 8, .inl fun _ => Int32.ofInt 0)), ((u5 8), .inr (4, [.ref (u5 9), .ref (u5 10), .int (Int32.ofInt 0), .int (Int32.ofInt 0), .ref (u5 11), .int (Int32.ofInt 0), .ref (u5 12), .ref (u5 13), .int (Int32.ofInt 0), .ref (u5 14)])), ((u5 9), .inl (ca 0, 12, .inl fun _ => Int32.ofInt 0)), ((u5 10), .inl (ca 0, 12, .inl fun _ => Int32.ofInt 0)), ((u5 11), .inl (ca 0, 8, .inl fun _ => Int32.ofInt 0)), ((u5 12), .inl (ca 0, 8, .inl (prF 8))), ((u5 13), .inl (ca 0, 8, .inl fun _ => Int32.ofInt 0)), ((u5 14), .inl (ca 0, 8, .inl fun _ => Int32.ofInt 0)), ((u5 15), .inr (4, [.ref (u5 16), .ref (u5 17), .int (Int32.ofInt 0), .int (Int32.ofInt 0), .ref (u5 18), .int (Int32.ofInt 0), .ref (u5 19), .ref (u5 20), .int (Int32.ofInt 0), .ref (u5 21)])), ((u5 16), .inl (ca 0, 12, .inl fun _ => Int32.ofInt 0)), ((u5 17), .inl (ca 0, 12, .inl fun _ => Int32.ofInt 0)), ((u5 18), .inl (ca 0, 8, .inl fun _ => Int32.ofInt 0)), ((u5 19), .inl (ca 0, 8, .inl (prF 8))), ((u5 20), .inl (ca 0, 8, .inl fun _ => Int32.ofInt 0)), ((u5 21), .inl (ca 0, 8, .inl fun _ => Int32.ofInt 0)), ((u5 22), .inr (4, [.ref (u5 23), .ref (u5 24), .int (Int32.ofInt 0), .int (Int32.ofInt 0), .ref (u5 25), .int (Int32.ofInt 0), .ref (u5 26), .ref (u5 27), .int (Int32.ofInt 0), .ref (u5 28)])), ((u5 23), .inl (ca 0, 12, .inl fun _ => Int32.ofInt 0)), ((u5 24), .inl (ca 0, 12, .inl fun _ => Int32.ofInt 0)), ((u5 25), .inl (ca 0, 8, .inl fun _ => Int32.ofInt 0)), ((u5 26), .inl (ca 0, 8, .inl (prF 8))), ((u5 27), .inl (ca 0, 8, .inl fun _ => Int32.ofInt 0)), ((u5 28), .inl (ca 0, 8, .inl fun _ => Int32.ofInt 0)), ((u5 29), .inr (4, [.ref (u5 30), .ref (u5 31), .int (Int32.ofInt 0), .int (Int32.ofInt 0), .ref (u5 32), .int (Int32.ofInt 0), .ref (u5 33), .ref (u5 34), .int (Int32.ofInt 0), .ref (u5 35)])), ((u5 30), .inl (ca 0, 12, .inl fun _ => Int32.ofInt 0)), ((u5 31), .inl (ca 0, 12, .inl fun _ => Int32.ofInt 0)), ((u5 32), .inl (ca 0, 8, .inl fun _ => Int32.ofInt 0)), ((u5 33), .inl (ca 0, 8, .inl (prF 8))), ((u5 34), .inl (ca 0, 8, .inl fun _ => Int32.ofInt 0)), ((u5 35), .inl (ca 0, 8, .inl fun _ => Int32.ofInt 0)), (q6, .inr (0, [.ref q3, .ref q1, .ref q2, .ref (u6 0)])), ((u6 0), .inl (ca 0, 8, .inl fun _ => Int32.ofInt 0)), (q7, .inr (6, [.ref (u7 0), .int (Int32.ofInt 0), .int (Int32.ofInt 0), .int (Int32.ofInt (-1)), .ref (u7 1), .int (Int32.ofInt 0), .int (Int32.ofInt 0)])), ((u7 0), .inl (ca 3, 60, .inl fun _ => Int32.ofInt 0)), ((u7 1), .inl (ca 0, 8, .inl fun _ => Int32.ofInt 0)), (q8, .inr (1, [.ref q1, .ref (u8 0), .int (Int32.ofInt 1), .ref (u8 1)])), ((u8 0), .inl (ca 2, 4096, .inl fun _ => Int32.ofInt 0)), ((u8 1), .inl (ca 0, 206, .inl fun _ => Int32.ofInt 0))]
def sysA (q q1 q2 q3 q4 q5 q6 q7 q8 : Nat) (u1 : Nat × (Nat → Int)) (u2 u3 u4 u5 u6 u7 u8 : Nat → Nat) (k : Nat) : Nat := match k with
  | 0 => q
  | 1 => q1
  | 2 => u1.1
  | 3 => q2
  | 4 => u2 0
  | 5 => u2 1
  | 6 => u2 2
  | 7 => u2 3
  | 8 => u2 4
  | 9 => u2 5
  | 10 => q3
  | 11 => u3 0
  | 12 => u3 1
  | 13 => u3 2
  | 14 => u3 3
  | 15 => u3 4
  | 16 => u3 5
  | 17 => q4
  | 18 => u4 0
  | 19 => u4 1
  | 20 => u4 2
  | 21 => u4 3
  | 22 => u4 4
  | 23 => u4 5
  | 24 => q5
  | 25 => u5 0
  | 26 => u5 1
  | 27 => u5 2
  | 28 => u5 3
  | 29 => u5 4
  | 30 => u5 5
  | 31 => u5 6
  | 32 => u5 7
  | 33 => u5 8
  | 34 => u5 9
  | 35 => u5 10
  | 36 => u5 11
  | 37 => u5 12
  | 38 => u5 13
  | 39 => u5 14
  | 40 => u5 15
  | 41 => u5 16
  | 42 => u5 17
  | 43 => u5 18
  | 44 => u5 19
  | 45 => u5 20
  | 46 => u5 21
  | 47 => u5 22
  | 48 => u5 23
  | 49 => u5 24
  | 50 => u5 25
  | 51 => u5 26
  | 52 => u5 27
  | 53 => u5 28
  | 54 => u5 29
  | 55 => u5 30
  | 56 => u5 31
  | 57 => u5 32
  | 58 => u5 33
  | 59 => u5 34
  | 60 => u5 35
  | 61 => q6
  | 62 => u6 0
  | 63 => q7
  | 64 => u7 0
  | 65 => u7 1
  | 66 => q8
  | 67 => u8 0
  | 68 => u8 1
  | _ => 0
section SYS
variable {stat : Nat → Nat} {ca : Nat → ClassId} {q q1 q2 q3 q4 q5 q6 q7 q8 : Nat} {u1 : Nat × (Nat → Int)} {u2 u3 u4 u5 u6 u7 u8 : Nat → Nat}
theorem sysE_0 : (wd shX (adX stat q (sysA q q1 q2 q3 q4 q5 q6 q7 q8 u1 u2 u3 u4 u5 u6 u7 u8)) ca (nu0 u1.2))[0]? = some (q, .inr (7, [.ref q1, .ref q2, .ref q3, .ref q4, .int (Int32.ofInt 0), .ref q5, .ref q6, .ref q7, .ref q8])) := (wd_get shX_0).trans rfl
theorem sysE_1 : (wd shX (adX stat q (sysA q q1 q2 q3 q4 q5 q6 q7 q8 u1 u2 u3 u4 u5 u6 u7 u8)) ca (nu0 u1.2))[1]? = some (q1, .inr (3, [.ref u1.1])) := (wd_get shX_1).trans rfl
theorem sysE_2 : (wd shX (adX stat q (sysA q q1 q2 q3 q4 q5 q6 q7 q8 u1 u2 u3 u4 u5 u6 u7 u8)) ca (nu0 u1.2))[2]? = some (u1.1, .inl (ca 1, 6561, .inl fun k => Int32.ofInt (u1.2 k))) := (wd_get shX_2).trans rfl
theorem sysE_3 : (wd shX (adX stat q (sysA q q1 q2 q3 q4 q5 q6 q7 q8 u1 u2 u3 u4 u5 u6 u7 u8)) ca (nu0 u1.2))[3]? = some (q2, .inr (5, [.ref q1, .ref (u2 0), .int (Int32.ofInt 0), .int (Int32.ofInt 0), .ref (u2 1), .ref (u2 2), .ref (u2 3), .ref (u2 4), .ref (u2 5)])) := (wd_get shX_3).trans rfl
theorem sysE_4 : (wd shX (adX stat q (sysA q q1 q2 q3 q4 q5 q6 q7 q8 u1 u2 u3 u4 u5 u6 u7 u8)) ca (nu0 u1.2))[4]? = some ((u2 0), .inl (ca 0, 8, .inl fun _ => Int32.ofInt 0)) := (wd_get shX_4).trans rfl
theorem sysE_5 : (wd shX (adX stat q (sysA q q1 q2 q3 q4 q5 q6 q7 q8 u1 u2 u3 u4 u5 u6 u7 u8)) ca (nu0 u1.2))[5]? = some ((u2 1), .inl (ca 0, 8, .inl fun _ => Int32.ofInt 0)) := (wd_get shX_5).trans rfl
theorem sysE_6 : (wd shX (adX stat q (sysA q q1 q2 q3 q4 q5 q6 q7 q8 u1 u2 u3 u4 u5 u6 u7 u8)) ca (nu0 u1.2))[6]? = some ((u2 2), .inl (ca 0, 8, .inl fun _ => Int32.ofInt 0)) := (wd_get shX_6).trans rfl
theorem sysE_7 : (wd shX (adX stat q (sysA q q1 q2 q3 q4 q5 q6 q7 q8 u1 u2 u3 u4 u5 u6 u7 u8)) ca (nu0 u1.2))[7]? = some ((u2 3), .inl (ca 0, 8, .inl fun _ => Int32.ofInt 0)) := (wd_get shX_7).trans rfl
theorem sysE_8 : (wd shX (adX stat q (sysA q q1 q2 q3 q4 q5 q6 q7 q8 u1 u2 u3 u4 u5 u6 u7 u8)) ca (nu0 u1.2))[8]? = some ((u2 4), .inl (ca 0, 81, .inl fun _ => Int32.ofInt 0)) := (wd_get shX_8).trans rfl
theorem sysE_9 : (wd shX (adX stat q (sysA q q1 q2 q3 q4 q5 q6 q7 q8 u1 u2 u3 u4 u5 u6 u7 u8)) ca (nu0 u1.2))[9]? = some ((u2 5), .inl (ca 0, 81, .inl fun _ => Int32.ofInt 0)) := (wd_get shX_9).trans rfl
theorem sysE_10 : (wd shX (adX stat q (sysA q q1 q2 q3 q4 q5 q6 q7 q8 u1 u2 u3 u4 u5 u6 u7 u8)) ca (nu0 u1.2))[10]? = some (q3, .inr (4, [.ref (u3 0), .ref (u3 1), .int (Int32.ofInt 0), .int (Int32.ofInt 0), .ref (u3 2), .int (Int32.ofInt 0), .ref (u3 3), .ref (u3 4), .int (Int32.ofInt 0), .ref (u3 5)])) := (wd_get shX_10).trans rfl
theorem sysE_11 : (wd shX (adX stat q (sysA q q1 q2 q3 q4 q5 q6 q7 q8 u1 u2 u3 u4 u5 u6 u7 u8)) ca (nu0 u1.2))[11]? = some ((u3 0), .inl (ca 0, 12, .inl fun _ => Int32.ofInt 0)) := (wd_get shX_11).trans rfl
theorem sysE_12 : (wd shX (adX stat q (sysA q q1 q2 q3 q4 q5 q6 q7 q8 u1 u2 u3 u4 u5 u6 u7 u8)) ca (nu0 u1.2))[12]? = some ((u3 1), .inl (ca 0, 12, .inl fun _ => Int32.ofInt 0)) := (wd_get shX_12).trans rfl
theorem sysE_13 : (wd shX (adX stat q (sysA q q1 q2 q3 q4 q5 q6 q7 q8 u1 u2 u3 u4 u5 u6 u7 u8)) ca (nu0 u1.2))[13]? = some ((u3 2), .inl (ca 0, 8, .inl fun _ => Int32.ofInt 0)) := (wd_get shX_13).trans rfl
theorem sysE_14 : (wd shX (adX stat q (sysA q q1 q2 q3 q4 q5 q6 q7 q8 u1 u2 u3 u4 u5 u6 u7 u8)) ca (nu0 u1.2))[14]? = some ((u3 3), .inl (ca 0, 8, .inl (prF 8))) := (wd_get shX_14).trans rfl
theorem sysE_15 : (wd shX (adX stat q (sysA q q1 q2 q3 q4 q5 q6 q7 q8 u1 u2 u3 u4 u5 u6 u7 u8)) ca (nu0 u1.2))[15]? = some ((u3 4), .inl (ca 0, 8, .inl fun _ => Int32.ofInt 0)) := (wd_get shX_15).trans rfl
theorem sysE_16 : (wd shX (adX stat q (sysA q q1 q2 q3 q4 q5 q6 q7 q8 u1 u2 u3 u4 u5 u6 u7 u8)) ca (nu0 u1.2))[16]? = some ((u3 5), .inl (ca 0, 8, .inl fun _ => Int32.ofInt 0)) := (wd_get shX_16).trans rfl
theorem sysE_17 : (wd shX (adX stat q (sysA q q1 q2 q3 q4 q5 q6 q7 q8 u1 u2 u3 u4 u5 u6 u7 u8)) ca (nu0 u1.2))[17]? = some (q4, .inr (4, [.ref (u4 0), .ref (u4 1), .int (Int32.ofInt 0), .int (Int32.ofInt 0), .ref (u4 2), .int (Int32.ofInt 0), .ref (u4 3), .ref (u4 4), .int (Int32.ofInt 0), .ref (u4 5)])) := (wd_get shX_17).trans rfl
theorem sysE_18 : (wd shX (adX stat q (sysA q q1 q2 q3 q4 q5 q6 q7 q8 u1 u2 u3 u4 u5 u6 u7 u8)) ca (nu0 u1.2))[18]? = some ((u4 0), .inl (ca 0, 12, .inl fun _ => Int32.ofInt 0)) := (wd_get shX_18).trans rfl
theorem sysE_19 : (wd shX (adX stat q (sysA q q1 q2 q3 q4 q5 q6 q7 q8 u1 u2 u3 u4 u5 u6 u7 u8)) ca (nu0 u1.2))[19]? = some ((u4 1), .inl (ca 0, 12, .inl fun _ => Int32.ofInt 0)) := (wd_get shX_19).trans rfl
theorem sysE_20 : (wd shX (adX stat q (sysA q q1 q2 q3 q4 q5 q6 q7 q8 u1 u2 u3 u4 u5 u6 u7 u8)) ca (nu0 u1.2))[20]? = some ((u4 2), .inl (ca 0, 8, .inl fun _ => Int32.ofInt 0)) := (wd_get shX_20).trans rfl
theorem sysE_21 : (wd shX (adX stat q (sysA q q1 q2 q3 q4 q5 q6 q7 q8 u1 u2 u3 u4 u5 u6 u7 u8)) ca (nu0 u1.2))[21]? = some ((u4 3), .inl (ca 0, 8, .inl (prF 8))) := (wd_get shX_21).trans rfl
theorem sysE_22 : (wd shX (adX stat q (sysA q q1 q2 q3 q4 q5 q6 q7 q8 u1 u2 u3 u4 u5 u6 u7 u8)) ca (nu0 u1.2))[22]? = some ((u4 4), .inl (ca 0, 8, .inl fun _ => Int32.ofInt 0)) := (wd_get shX_22).trans rfl
theorem sysE_23 : (wd shX (adX stat q (sysA q q1 q2 q3 q4 q5 q6 q7 q8 u1 u2 u3 u4 u5 u6 u7 u8)) ca (nu0 u1.2))[23]? = some ((u4 5), .inl (ca 0, 8, .inl fun _ => Int32.ofInt 0)) := (wd_get shX_23).trans rfl
theorem sysE_24 : (wd shX (adX stat q (sysA q q1 q2 q3 q4 q5 q6 q7 q8 u1 u2 u3 u4 u5 u6 u7 u8)) ca (nu0 u1.2))[24]? = some (q5, .inr (2, [.ref (u5 0), .int (Int32.ofInt 0), .int (Int32.ofInt 0)])) := (wd_get shX_24).trans rfl
theorem sysE_25 : (wd shX (adX stat q (sysA q q1 q2 q3 q4 q5 q6 q7 q8 u1 u2 u3 u4 u5 u6 u7 u8)) ca (nu0 u1.2))[25]? = some (u5 0, .inl (ca 5, 5, .inr (.inr (.inr (.inr fun j => some (adX stat q (sysA q q1 q2 q3 q4 q5 q6 q7 q8 u1 u2 u3 u4 u5 u6 u7 u8) ([26, 33, 40, 47, 54].getD j 0))))))) := (wd_get shX_25).trans rfl
theorem sysE_26 : (wd shX (adX stat q (sysA q q1 q2 q3 q4 q5 q6 q7 q8 u1 u2 u3 u4 u5 u6 u7 u8)) ca (nu0 u1.2))[26]? = some ((u5 1), .inr (4, [.ref (u5 2), .ref (u5 3), .int (Int32.ofInt 0), .int (Int32.ofInt 0), .ref (u5 4), .int (Int32.ofInt 0), .ref (u5 5), .ref (u5 6), .int (Int32.ofInt 0), .ref (u5 7)])) := (wd_get shX_26).trans rfl
theorem sysE_27 : (wd shX (adX stat q (sysA q q1 q2 q3 q4 q5 q6 q7 q8 u1 u2 u3 u4 u5 u6 u7 u8)) ca (nu0 u1.2))[27]? = some ((u5 2), .inl (ca 0, 12, .inl fun _ => Int32.ofInt 0)) := (wd_get shX_27).trans rfl
theorem sysE_28 : (wd shX (adX stat q (sysA q q1 q2 q3 q4 q5 q6 q7 q8 u1 u2 u3 u4 u5 u6 u7 u8)) ca (nu0 u1.2))[28]? = some ((u5 3), .inl (ca 0, 12, .inl fun _ => Int32.ofInt 0)) := (wd_get shX_28).trans rfl
theorem sysE_29 : (wd shX (adX stat q (sysA q q1 q2 q3 q4 q5 q6 q7 q8 u1 u2 u3 u4 u5 u6 u7 u8)) ca (nu0 u1.2))[29]? = some ((u5 4), .inl (ca 0, 8, .inl fun _ => Int32.ofInt 0)) := (wd_get shX_29).trans rfl
theorem sysE_30 : (wd shX (adX stat q (sysA q q1 q2 q3 q4 q5 q6 q7 q8 u1 u2 u3 u4 u5 u6 u7 u8)) ca (nu0 u1.2))[30]? = some ((u5 5), .inl (ca 0, 8, .inl (prF 8))) := (wd_get shX_30).trans rfl
theorem sysE_31 : (wd shX (adX stat q (sysA q q1 q2 q3 q4 q5 q6 q7 q8 u1 u2 u3 u4 u5 u6 u7 u8)) ca (nu0 u1.2))[31]? = some ((u5 6), .inl (ca 0, 8, .inl fun _ => Int32.ofInt 0)) := (wd_get shX_31).trans rfl
theorem sysE_32 : (wd shX (adX stat q (sysA q q1 q2 q3 q4 q5 q6 q7 q8 u1 u2 u3 u4 u5 u6 u7 u8)) ca (nu0 u1.2))[32]? = some ((u5 7), .inl (ca 0, 8, .inl fun _ => Int32.ofInt 0)) := (wd_get shX_32).trans rfl
theorem sysE_33 : (wd shX (adX stat q (sysA q q1 q2 q3 q4 q5 q6 q7 q8 u1 u2 u3 u4 u5 u6 u7 u8)) ca (nu0 u1.2))[33]? = some ((u5 8), .inr (4, [.ref (u5 9), .ref (u5 10), .int (Int32.ofInt 0), .int (Int32.ofInt 0), .ref (u5 11), .int (Int32.ofInt 0), .ref (u5 12), .ref (u5 13), .int (Int32.ofInt 0), .ref (u5 14)])) := (wd_get shX_33).trans rfl
theorem sysE_34 : (wd shX (adX stat q (sysA q q1 q2 q3 q4 q5 q6 q7 q8 u1 u2 u3 u4 u5 u6 u7 u8)) ca (nu0 u1.2))[34]? = some ((u5 9), .inl (ca 0, 12, .inl fun _ => Int32.ofInt 0)) := (wd_get shX_34).trans rfl
theorem sysE_35 : (wd shX (adX stat q (sysA q q1 q2 q3 q4 q5 q6 q7 q8 u1 u2 u3 u4 u5 u6 u7 u8)) ca (nu0 u1.2))[35]? = some ((u5 10), .inl (ca 0, 12, .inl fun _ => Int32.ofInt 0)) := (wd_get shX_35).trans rfl
theorem sysE_36 : (wd shX (adX stat q (sysA q q1 q2 q3 q4 q5 q6 q7 q8 u1 u2 u3 u4 u5 u6 u7 u8)) ca (nu0 u1.2))[36]? = some ((u5 11), .inl (ca 0, 8, .inl fun _ => Int32.ofInt 0)) := (wd_get shX_36).trans rfl
theorem sysE_37 : (wd shX (adX stat q (sysA q q1 q2 q3 q4 q5 q6 q7 q8 u1 u2 u3 u4 u5 u6 u7 u8)) ca (nu0 u1.2))[37]? = some ((u5 12), .inl (ca 0, 8, .inl (prF 8))) := (wd_get shX_37).trans rfl
theorem sysE_38 : (wd shX (adX stat q (sysA q q1 q2 q3 q4 q5 q6 q7 q8 u1 u2 u3 u4 u5 u6 u7 u8)) ca (nu0 u1.2))[38]? = some ((u5 13), .inl (ca 0, 8, .inl fun _ => Int32.ofInt 0)) := (wd_get shX_38).trans rfl
theorem sysE_39 : (wd shX (adX stat q (sysA q q1 q2 q3 q4 q5 q6 q7 q8 u1 u2 u3 u4 u5 u6 u7 u8)) ca (nu0 u1.2))[39]? = some ((u5 14), .inl (ca 0, 8, .inl fun _ => Int32.ofInt 0)) := (wd_get shX_39).trans rfl
theorem sysE_40 : (wd shX (adX stat q (sysA q q1 q2 q3 q4 q5 q6 q7 q8 u1 u2 u3 u4 u5 u6 u7 u8)) ca (nu0 u1.2))[40]? = some ((u5 15), .inr (4, [.ref (u5 16), .ref (u5 17), .int (Int32.ofInt 0), .int (Int32.ofInt 0), .ref (u5 18), .int (Int32.ofInt 0), .ref (u5 19), .ref (u5 20), .int (Int32.ofInt 0), .ref (u5 21)])) := (wd_get shX_40).trans rfl
theorem sysE_41 : (wd shX (adX stat q (sysA q q1 q2 q3 q4 q5 q6 q7 q8 u1 u2 u3 u4 u5 u6 u7 u8)) ca (nu0 u1.2))[41]? = some ((u5 16), .inl (ca 0, 12, .inl fun _ => Int32.ofInt 0)) := (wd_get shX_41).trans rfl
theorem sysE_42 : (wd shX (adX stat q (sysA q q1 q2 q3 q4 q5 q6 q7 q8 u1 u2 u3 u4 u5 u6 u7 u8)) ca (nu0 u1.2))[42]? = some ((u5 17), .inl (ca 0, 12, .inl fun _ => Int32.ofInt 0)) := (wd_get shX_42).trans rfl
theorem sysE_43 : (wd shX (adX stat q (sysA q q1 q2 q3 q4 q5 q6 q7 q8 u1 u2 u3 u4 u5 u6 u7 u8)) ca (nu0 u1.2))[43]? = some ((u5 18), .inl (ca 0, 8, .inl fun _ => Int32.ofInt 0)) := (wd_get shX_43).trans rfl
theorem sysE_44 : (wd shX (adX stat q (sysA q q1 q2 q3 q4 q5 q6 q7 q8 u1 u2 u3 u4 u5 u6 u7 u8)) ca (nu0 u1.2))[44]? = some ((u5 19), .inl (ca 0, 8, .inl (prF 8))) := (wd_get shX_44).trans rfl
theorem sysE_45 : (wd shX (adX stat q (sysA q q1 q2 q3 q4 q5 q6 q7 q8 u1 u2 u3 u4 u5 u6 u7 u8)) ca (nu0 u1.2))[45]? = some ((u5 20), .inl (ca 0, 8, .inl fun _ => Int32.ofInt 0)) := (wd_get shX_45).trans rfl
theorem sysE_46 : (wd shX (adX stat q (sysA q q1 q2 q3 q4 q5 q6 q7 q8 u1 u2 u3 u4 u5 u6 u7 u8)) ca (nu0 u1.2))[46]? = some ((u5 21), .inl (ca 0, 8, .inl fun _ => Int32.ofInt 0)) := (wd_get shX_46).trans rfl
theorem sysE_47 : (wd shX (adX stat q (sysA q q1 q2 q3 q4 q5 q6 q7 q8 u1 u2 u3 u4 u5 u6 u7 u8)) ca (nu0 u1.2))[47]? = some ((u5 22), .inr (4, [.ref (u5 23), .ref (u5 24), .int (Int32.ofInt 0), .int (Int32.ofInt 0), .ref (u5 25), .int (Int32.ofInt 0), .ref (u5 26), .ref (u5 27), .int (Int32.ofInt 0), .ref (u5 28)])) := (wd_get shX_47).trans rfl
theorem sysE_48 : (wd shX (adX stat q (sysA q q1 q2 q3 q4 q5 q6 q7 q8 u1 u2 u3 u4 u5 u6 u7 u8)) ca (nu0 u1.2))[48]? = some ((u5 23), .inl (ca 0, 12, .inl fun _ => Int32.ofInt 0)) := (wd_get shX_48).trans rfl
theorem sysE_49 : (wd shX (adX stat q (sysA q q1 q2 q3 q4 q5 q6 q7 q8 u1 u2 u3 u4 u5 u6 u7 u8)) ca (nu0 u1.2))[49]? = some ((u5 24), .inl (ca 0, 12, .inl fun _ => Int32.ofInt 0)) := (wd_get shX_49).trans rfl
theorem sysE_50 : (wd shX (adX stat q (sysA q q1 q2 q3 q4 q5 q6 q7 q8 u1 u2 u3 u4 u5 u6 u7 u8)) ca (nu0 u1.2))[50]? = some ((u5 25), .inl (ca 0, 8, .inl fun _ => Int32.ofInt 0)) := (wd_get shX_50).trans rfl
theorem sysE_51 : (wd shX (adX stat q (sysA q q1 q2 q3 q4 q5 q6 q7 q8 u1 u2 u3 u4 u5 u6 u7 u8)) ca (nu0 u1.2))[51]? = some ((u5 26), .inl (ca 0, 8, .inl (prF 8))) := (wd_get shX_51).trans rfl
theorem sysE_52 : (wd shX (adX stat q (sysA q q1 q2 q3 q4 q5 q6 q7 q8 u1 u2 u3 u4 u5 u6 u7 u8)) ca (nu0 u1.2))[52]? = some ((u5 27), .inl (ca 0, 8, .inl fun _ => Int32.ofInt 0)) := (wd_get shX_52).trans rfl
theorem sysE_53 : (wd shX (adX stat q (sysA q q1 q2 q3 q4 q5 q6 q7 q8 u1 u2 u3 u4 u5 u6 u7 u8)) ca (nu0 u1.2))[53]? = some ((u5 28), .inl (ca 0, 8, .inl fun _ => Int32.ofInt 0)) := (wd_get shX_53).trans rfl
theorem sysE_54 : (wd shX (adX stat q (sysA q q1 q2 q3 q4 q5 q6 q7 q8 u1 u2 u3 u4 u5 u6 u7 u8)) ca (nu0 u1.2))[54]? = some ((u5 29), .inr (4, [.ref (u5 30), .ref (u5 31), .int (Int32.ofInt 0), .int (Int32.ofInt 0), .ref (u5 32), .int (Int32.ofInt 0), .ref (u5 33), .ref (u5 34), .int (Int32.ofInt 0), .ref (u5 35)])) := (wd_get shX_54).trans rfl
theorem sysE_55 : (wd shX (adX stat q (sysA q q1 q2 q3 q4 q5 q6 q7 q8 u1 u2 u3 u4 u5 u6 u7 u8)) ca (nu0 u1.2))[55]? = some ((u5 30), .inl (ca 0, 12, .inl fun _ => Int32.ofInt 0)) := (wd_get shX_55).trans rfl
theorem sysE_56 : (wd shX (adX stat q (sysA q q1 q2 q3 q4 q5 q6 q7 q8 u1 u2 u3 u4 u5 u6 u7 u8)) ca (nu0 u1.2))[56]? = some ((u5 31), .inl (ca 0, 12, .inl fun _ => Int32.ofInt 0)) := (wd_get shX_56).trans rfl
theorem sysE_57 : (wd shX (adX stat q (sysA q q1 q2 q3 q4 q5 q6 q7 q8 u1 u2 u3 u4 u5 u6 u7 u8)) ca (nu0 u1.2))[57]? = some ((u5 32), .inl (ca 0, 8, .inl fun _ => Int32.ofInt 0)) := (wd_get shX_57).trans rfl
theorem sysE_58 : (wd shX (adX stat q (sysA q q1 q2 q3 q4 q5 q6 q7 q8 u1 u2 u3 u4 u5 u6 u7 u8)) ca (nu0 u1.2))[58]? = some ((u5 33), .inl (ca 0, 8, .inl (prF 8))) := (wd_get shX_58).trans rfl
theorem sysE_59 : (wd shX (adX stat q (sysA q q1 q2 q3 q4 q5 q6 q7 q8 u1 u2 u3 u4 u5 u6 u7 u8)) ca (nu0 u1.2))[59]? = some ((u5 34), .inl (ca 0, 8, .inl fun _ => Int32.ofInt 0)) := (wd_get shX_59).trans rfl
theorem sysE_60 : (wd shX (adX stat q (sysA q q1 q2 q3 q4 q5 q6 q7 q8 u1 u2 u3 u4 u5 u6 u7 u8)) ca (nu0 u1.2))[60]? = some ((u5 35), .inl (ca 0, 8, .inl fun _ => Int32.ofInt 0)) := (wd_get shX_60).trans rfl
theorem sysE_61 : (wd shX (adX stat q (sysA q q1 q2 q3 q4 q5 q6 q7 q8 u1 u2 u3 u4 u5 u6 u7 u8)) ca (nu0 u1.2))[61]? = some (q6, .inr (0, [.ref q3, .ref q1, .ref q2, .ref (u6 0)])) := (wd_get shX_61).trans rfl
theorem sysE_62 : (wd shX (adX stat q (sysA q q1 q2 q3 q4 q5 q6 q7 q8 u1 u2 u3 u4 u5 u6 u7 u8)) ca (nu0 u1.2))[62]? = some ((u6 0), .inl (ca 0, 8, .inl fun _ => Int32.ofInt 0)) := (wd_get shX_62).trans rfl
theorem sysE_63 : (wd shX (adX stat q (sysA q q1 q2 q3 q4 q5 q6 q7 q8 u1 u2 u3 u4 u5 u6 u7 u8)) ca (nu0 u1.2))[63]? = some (q7, .inr (6, [.ref (u7 0), .int (Int32.ofInt 0), .int (Int32.ofInt 0), .int (Int32.ofInt (-1)), .ref (u7 1), .int (Int32.ofInt 0), .int (Int32.ofInt 0)])) := (wd_get shX_63).trans rfl
theorem sysE_64 : (wd shX (adX stat q (sysA q q1 q2 q3 q4 q5 q6 q7 q8 u1 u2 u3 u4 u5 u6 u7 u8)) ca (nu0 u1.2))[64]? = some ((u7 0), .inl (ca 3, 60, .inl fun _ => Int32.ofInt 0)) := (wd_get shX_64).trans rfl
theorem sysE_65 : (wd shX (adX stat q (sysA q q1 q2 q3 q4 q5 q6 q7 q8 u1 u2 u3 u4 u5 u6 u7 u8)) ca (nu0 u1.2))[65]? = some ((u7 1), .inl (ca 0, 8, .inl fun _ => Int32.ofInt 0)) := (wd_get shX_65).trans rfl
theorem sysE_66 : (wd shX (adX stat q (sysA q q1 q2 q3 q4 q5 q6 q7 q8 u1 u2 u3 u4 u5 u6 u7 u8)) ca (nu0 u1.2))[66]? = some (q8, .inr (1, [.ref q1, .ref (u8 0), .int (Int32.ofInt 1), .ref (u8 1)])) := (wd_get shX_66).trans rfl
theorem sysE_67 : (wd shX (adX stat q (sysA q q1 q2 q3 q4 q5 q6 q7 q8 u1 u2 u3 u4 u5 u6 u7 u8)) ca (nu0 u1.2))[67]? = some ((u8 0), .inl (ca 2, 4096, .inl fun _ => Int32.ofInt 0)) := (wd_get shX_67).trans rfl
theorem sysE_68 : (wd shX (adX stat q (sysA q q1 q2 q3 q4 q5 q6 q7 q8 u1 u2 u3 u4 u5 u6 u7 u8)) ca (nu0 u1.2))[68]? = some ((u8 1), .inl (ca 0, 206, .inl fun _ => Int32.ofInt 0)) := (wd_get shX_68).trans rfl
theorem sys_eq : (sysL ca q q1 q2 q3 q4 q5 q6 q7 q8 u1 u2 u3 u4 u5 u6 u7 u8).set 25 (u5 0, .inl (ca 5, 5, .inr (.inr (.inr (.inr fun j => some (adX stat q (sysA q q1 q2 q3 q4 q5 q6 q7 q8 u1 u2 u3 u4 u5 u6 u7 u8) ([26, 33, 40, 47, 54].getD j 0))))))) = wd shX (adX stat q (sysA q q1 q2 q3 q4 q5 q6 q7 q8 u1 u2 u3 u4 u5 u6 u7 u8)) ca (nu0 u1.2) := by
  apply List.ext_getElem?
  intro k
  match k with
  | 0 => exact sysE_0.symm
  | 1 => exact sysE_1.symm
  | 2 => exact sysE_2.symm
  | 3 => exact sysE_3.symm
  | 4 => exact sysE_4.symm
  | 5 => exact sysE_5.symm
  | 6 => exact sysE_6.symm
  | 7 => exact sysE_7.symm
  | 8 => exact sysE_8.symm
  | 9 => exact sysE_9.symm
  | 10 => exact sysE_10.symm
  | 11 => exact sysE_11.symm
  | 12 => exact sysE_12.symm
  | 13 => exact sysE_13.symm
  | 14 => exact sysE_14.symm
  | 15 => exact sysE_15.symm
  | 16 => exact sysE_16.symm
  | 17 => exact sysE_17.symm
  | 18 => exact sysE_18.symm
  | 19 => exact sysE_19.symm
  | 20 => exact sysE_20.symm
  | 21 => exact sysE_21.symm
  | 22 => exact sysE_22.symm
  | 23 => exact sysE_23.symm
  | 24 => exact sysE_24.symm
  | 25 => exact sysE_25.symm
  | 26 => exact sysE_26.symm
  | 27 => exact sysE_27.symm
  | 28 => exact sysE_28.symm
  | 29 => exact sysE_29.symm
  | 30 => exact sysE_30.symm
  | 31 => exact sysE_31.symm
  | 32 => exact sysE_32.symm
  | 33 => exact sysE_33.symm
  | 34 => exact sysE_34.symm
  | 35 => exact sysE_35.symm
  | 36 => exact sysE_36.symm
  | 37 => exact sysE_37.symm
  | 38 => exact sysE_38.symm
  | 39 => exact sysE_39.symm
  | 40 => exact sysE_40.symm
  | 41 => exact sysE_41.symm
  | 42 => exact sysE_42.symm
  | 43 => exact sysE_43.symm
  | 44 => exact sysE_44.symm
  | 45 => exact sysE_45.symm
  | 46 => exact sysE_46.symm
  | 47 => exact sysE_47.symm
  | 48 => exact sysE_48.symm
  | 49 => exact sysE_49.symm
  | 50 => exact sysE_50.symm
  | 51 => exact sysE_51.symm
  | 52 => exact sysE_52.symm
  | 53 => exact sysE_53.symm
  | 54 => exact sysE_54.symm
  | 55 => exact sysE_55.symm
  | 56 => exact sysE_56.symm
  | 57 => exact sysE_57.symm
  | 58 => exact sysE_58.symm
  | 59 => exact sysE_59.symm
  | 60 => exact sysE_60.symm
  | 61 => exact sysE_61.symm
  | 62 => exact sysE_62.symm
  | 63 => exact sysE_63.symm
  | 64 => exact sysE_64.symm
  | 65 => exact sysE_65.symm
  | 66 => exact sysE_66.symm
  | 67 => exact sysE_67.symm
  | 68 => exact sysE_68.symm
  | k + 69 =>
    rw [List.getElem?_eq_none (by rw [List.length_set]; exact Nat.le_add_left 69 k), List.getElem?_eq_none (by rw [wd, List.length_mapIdx]; exact Nat.le_add_left 69 k)]
end SYS
