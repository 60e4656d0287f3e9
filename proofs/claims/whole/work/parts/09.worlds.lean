def wX (d : jD) (σ : jS) : va_W := [
  (d.2.1 0, .inr (11, [.ref (d.2.1 1), .ref (d.2.1 3), .ref (d.2.1 7), .ref (d.2.1 13), .ref (d.2.1 16), .ref (d.2.1 32), .ref (d.2.1 36), .ref (d.2.1 37), .ref (d.2.1 39), .ref (d.2.1 41), .ref (d.2.1 44), .int (jb (σ.1 0 11))])),
  (d.2.1 1, .inr (6, [.ref (d.2.1 2), .int (σ.1 1 1)])),
  (d.2.1 2, .inl (d.2.2.1 0, 61, .inl (σ.1 2))),
  (d.2.1 3, .inr (1, [.ref (d.2.1 1), .ref (d.2.1 4), .ref (d.2.1 5), .ref (d.2.1 6), .int (σ.1 3 4), .int (σ.1 3 5)])),
  (d.2.1 4, .inl (d.2.2.1 0, 40, .inl (σ.1 4))),
  (d.2.1 5, .inl (d.2.2.1 0, 40, .inl (σ.1 5))),
  (d.2.1 6, .inl (d.2.2.1 0, 40, .inl (σ.1 6))),
  (d.2.1 7, .inr (4, [.ref (d.2.1 8), .int (σ.1 7 1), .int (σ.1 7 2), .ref (d.2.1 9), .int (σ.1 7 4), .ref (d.2.1 10), .int (σ.1 7 6), .ref (d.2.1 11), .ref (d.2.1 12)])),
  (d.2.1 8, .inl (d.2.2.1 1, 120, .inl (σ.1 8))),
  (d.2.1 9, .inl (d.2.2.1 0, 121, .inl (σ.1 9))),
  (d.2.1 10, .inl (d.2.2.1 0, 121, .inl (σ.1 10))),
  (d.2.1 11, .inl (d.2.2.1 0, 64, .inl (σ.1 11))),
  (d.2.1 12, .inl (d.2.2.1 0, 6, .inl (σ.1 12))),
  (d.2.1 13, .inr (8, [.ref (d.2.1 1), .ref (d.2.1 7), .ref (d.2.1 14), .ref (d.2.1 15)])),
  (d.2.1 14, .inr (10, [.int (σ.1 14 0), .int (σ.1 14 1), .int (σ.1 14 2), .int (σ.1 14 3), .int (σ.1 14 4), .int (σ.1 14 5), .int (σ.1 14 6), .int (σ.1 14 7)])),
  (d.2.1 15, .inl (d.2.2.1 0, 60, .inl (σ.1 15))),
  (d.2.1 16, .inl (d.2.2.1 4, 3, .inr (.inr (.inr (.inr (fun k => some (d.2.1 (17 + 5 * k)))))))),
  (d.2.1 17, .inr (5, [.ref (d.2.1 1), .ref (d.2.1 13), .int (σ.1 17 2), .ref (d.2.1 18), .ref (d.2.1 19), .ref (d.2.1 20), .ref (d.2.1 21), .int (σ.1 17 7), .int (σ.1 17 8)])),
  (d.2.1 18, .inl (d.2.2.1 0, 9, .inl (σ.1 18))),
  (d.2.1 19, .inl (d.2.2.1 0, 9, .inl (σ.1 19))),
  (d.2.1 20, .inl (d.2.2.1 0, 9, .inl (σ.1 20))),
  (d.2.1 21, .inl (d.2.2.1 0, 9, .inl (σ.1 21))),
  (d.2.1 22, .inr (5, [.ref (d.2.1 1), .ref (d.2.1 13), .int (σ.1 22 2), .ref (d.2.1 23), .ref (d.2.1 24), .ref (d.2.1 25), .ref (d.2.1 26), .int (σ.1 22 7), .int (σ.1 22 8)])),
  (d.2.1 23, .inl (d.2.2.1 0, 9, .inl (σ.1 23))),
  (d.2.1 24, .inl (d.2.2.1 0, 9, .inl (σ.1 24))),
  (d.2.1 25, .inl (d.2.2.1 0, 9, .inl (σ.1 25))),
  (d.2.1 26, .inl (d.2.2.1 0, 9, .inl (σ.1 26))),
  (d.2.1 27, .inr (5, [.ref (d.2.1 1), .ref (d.2.1 13), .int (σ.1 27 2), .ref (d.2.1 28), .ref (d.2.1 29), .ref (d.2.1 30), .ref (d.2.1 31), .int (σ.1 27 7), .int (σ.1 27 8)])),
  (d.2.1 28, .inl (d.2.2.1 0, 9, .inl (σ.1 28))),
  (d.2.1 29, .inl (d.2.2.1 0, 9, .inl (σ.1 29))),
  (d.2.1 30, .inl (d.2.2.1 0, 9, .inl (σ.1 30))),
  (d.2.1 31, .inl (d.2.2.1 0, 9, .inl (σ.1 31))),
  (d.2.1 32, .inr (7, [.ref (d.2.1 33), .ref (d.2.1 34), .ref (d.2.1 35), .int (σ.1 32 3), .int (σ.1 32 4)])),
  (d.2.1 33, .inl (d.2.2.1 0, 25, .inl (σ.1 33))),
  (d.2.1 34, .inl (d.2.2.1 0, 5, .inl (σ.1 34))),
  (d.2.1 35, .inl (d.2.2.1 0, 5, .inl (σ.1 35))),
  (d.2.1 36, .inr (3, [.int (σ.1 36 0), .int (σ.1 36 1)])),
  (d.2.1 37, .inr (2, [.ref (d.2.1 38), .int (jb (σ.1 37 1)), .int (σ.1 37 2), .int (σ.1 37 3), .int (σ.1 37 4), .int (σ.1 37 5), .int (σ.1 37 6), .int (σ.1 37 7)])),
  (d.2.1 38, .inr (10, [.int (σ.1 38 0), .int (σ.1 38 1), .int (σ.1 38 2), .int (σ.1 38 3), .int (σ.1 38 4), .int (σ.1 38 5), .int (σ.1 38 6), .int (σ.1 38 7)])),
  (d.2.1 39, .inr (2, [.ref (d.2.1 40), .int (jb (σ.1 39 1)), .int (σ.1 39 2), .int (σ.1 39 3), .int (σ.1 39 4), .int (σ.1 39 5), .int (σ.1 39 6), .int (σ.1 39 7)])),
  (d.2.1 40, .inr (10, [.int (σ.1 40 0), .int (σ.1 40 1), .int (σ.1 40 2), .int (σ.1 40 3), .int (σ.1 40 4), .int (σ.1 40 5), .int (σ.1 40 6), .int (σ.1 40 7)])),
  (d.2.1 41, .inr (0, [.ref (d.2.1 42), .int (σ.1 41 1), .ref (d.2.1 43), .int (σ.1 41 3)])),
  (d.2.1 42, .inl (d.2.2.1 0, 50, .inl (σ.1 42))),
  (d.2.1 43, .inl (d.2.2.1 0, 24, .inl (σ.1 43))),
  (d.2.1 44, .inr (9, [.ref (d.2.1 45), .ref (d.2.1 46), .ref (d.2.1 47), .ref (d.2.1 48), .ref (d.2.1 49)])),
  (d.2.1 45, .inl (d.2.2.1 0, 6, .inl (σ.1 45))),
  (d.2.1 46, .inl (d.2.2.1 0, 6, .inl (σ.1 46))),
  (d.2.1 47, .inl (d.2.2.1 0, 6, .inl (σ.1 47))),
  (d.2.1 48, .inl (d.2.2.1 0, 6, .inl (σ.1 48))),
  (d.2.1 49, .inl (d.2.2.1 3, 360, .inr (.inl (σ.2 49))))]
theorem X_at_0 (d : jD) (σ : jS) : (wX d σ)[0]? = some (d.2.1 0, .inr (11, [.ref (d.2.1 1), .ref (d.2.1 3), .ref (d.2.1 7), .ref (d.2.1 13), .ref (d.2.1 16), .ref (d.2.1 32), .ref (d.2.1 36), .ref (d.2.1 37), .ref (d.2.1 39), .ref (d.2.1 41), .ref (d.2.1 44), .int (jb (σ.1 0 11))])) := rfl
theorem X_sf_0_11 (d : jD) (σ : jS) (x : Int32) : (wX d σ).set 0 (d.2.1 0, .inr (11, [.ref (d.2.1 1), .ref (d.2.1 3), .ref (d.2.1 7), .ref (d.2.1 13), .ref (d.2.1 16), .ref (d.2.1 32), .ref (d.2.1 36), .ref (d.2.1 37), .ref (d.2.1 39), .ref (d.2.1 41), .ref (d.2.1 44), .int (jb x)])) = wX d (ju σ 0 11 x) := rfl
theorem X_at_1 (d : jD) (σ : jS) : (wX d σ)[1]? = some (d.2.1 1, .inr (6, [.ref (d.2.1 2), .int (σ.1 1 1)])) := rfl
theorem X_sf_1_1 (d : jD) (σ : jS) (x : Int32) : (wX d σ).set 1 (d.2.1 1, .inr (6, [.ref (d.2.1 2), .int x])) = wX d (ju σ 1 1 x) := rfl
theorem X_at_2 (d : jD) (σ : jS) : (wX d σ)[2]? = some (d.2.1 2, .inl (d.2.2.1 0, 61, .inl (σ.1 2))) := rfl
theorem X_sa_2 (d : jD) (σ : jS) (f : Nat → Int32) : (wX d σ).set 2 (d.2.1 2, .inl (d.2.2.1 0, 61, .inl f)) = wX d (jc σ 2 f) := rfl
theorem X_at_3 (d : jD) (σ : jS) : (wX d σ)[3]? = some (d.2.1 3, .inr (1, [.ref (d.2.1 1), .ref (d.2.1 4), .ref (d.2.1 5), .ref (d.2.1 6), .int (σ.1 3 4), .int (σ.1 3 5)])) := rfl
theorem X_sf_3_4 (d : jD) (σ : jS) (x : Int32) : (wX d σ).set 3 (d.2.1 3, .inr (1, [.ref (d.2.1 1), .ref (d.2.1 4), .ref (d.2.1 5), .ref (d.2.1 6), .int x, .int (σ.1 3 5)])) = wX d (ju σ 3 4 x) := rfl
theorem X_sf_3_5 (d : jD) (σ : jS) (x : Int32) : (wX d σ).set 3 (d.2.1 3, .inr (1, [.ref (d.2.1 1), .ref (d.2.1 4), .ref (d.2.1 5), .ref (d.2.1 6), .int (σ.1 3 4), .int x])) = wX d (ju σ 3 5 x) := rfl
theorem X_at_4 (d : jD) (σ : jS) : (wX d σ)[4]? = some (d.2.1 4, .inl (d.2.2.1 0, 40, .inl (σ.1 4))) := rfl
theorem X_sa_4 (d : jD) (σ : jS) (f : Nat → Int32) : (wX d σ).set 4 (d.2.1 4, .inl (d.2.2.1 0, 40, .inl f)) = wX d (jc σ 4 f) := rfl
theorem X_at_5 (d : jD) (σ : jS) : (wX d σ)[5]? = some (d.2.1 5, .inl (d.2.2.1 0, 40, .inl (σ.1 5))) := rfl
theorem X_sa_5 (d : jD) (σ : jS) (f : Nat → Int32) : (wX d σ).set 5 (d.2.1 5, .inl (d.2.2.1 0, 40, .inl f)) = wX d (jc σ 5 f) := rfl
theorem X_at_6 (d : jD) (σ : jS) : (wX d σ)[6]? = some (d.2.1 6, .inl (d.2.2.1 0, 40, .inl (σ.1 6))) := rfl
theorem X_sa_6 (d : jD) (σ : jS) (f : Nat → Int32) : (wX d σ).set 6 (d.2.1 6, .inl (d.2.2.1 0, 40, .inl f)) = wX d (jc σ 6 f) := rfl
theorem X_at_7 (d : jD) (σ : jS) : (wX d σ)[7]? = some (d.2.1 7, .inr (4, [.ref (d.2.1 8), .int (σ.1 7 1), .int (σ.1 7 2), .ref (d.2.1 9), .int (σ.1 7 4), .ref (d.2.1 10), .int (σ.1 7 6), .ref (d.2.1 11), .ref (d.2.1 12)])) := rfl
theorem X_sf_7_1 (d : jD) (σ : jS) (x : Int32) : (wX d σ).set 7 (d.2.1 7, .inr (4, [.ref (d.2.1 8), .int x, .int (σ.1 7 2), .ref (d.2.1 9), .int (σ.1 7 4), .ref (d.2.1 10), .int (σ.1 7 6), .ref (d.2.1 11), .ref (d.2.1 12)])) = wX d (ju σ 7 1 x) := rfl
theorem X_sf_7_2 (d : jD) (σ : jS) (x : Int32) : (wX d σ).set 7 (d.2.1 7, .inr (4, [.ref (d.2.1 8), .int (σ.1 7 1), .int x, .ref (d.2.1 9), .int (σ.1 7 4), .ref (d.2.1 10), .int (σ.1 7 6), .ref (d.2.1 11), .ref (d.2.1 12)])) = wX d (ju σ 7 2 x) := rfl
theorem X_sf_7_4 (d : jD) (σ : jS) (x : Int32) : (wX d σ).set 7 (d.2.1 7, .inr (4, [.ref (d.2.1 8), .int (σ.1 7 1), .int (σ.1 7 2), .ref (d.2.1 9), .int x, .ref (d.2.1 10), .int (σ.1 7 6), .ref (d.2.1 11), .ref (d.2.1 12)])) = wX d (ju σ 7 4 x) := rfl
theorem X_sf_7_6 (d : jD) (σ : jS) (x : Int32) : (wX d σ).set 7 (d.2.1 7, .inr (4, [.ref (d.2.1 8), .int (σ.1 7 1), .int (σ.1 7 2), .ref (d.2.1 9), .int (σ.1 7 4), .ref (d.2.1 10), .int x, .ref (d.2.1 11), .ref (d.2.1 12)])) = wX d (ju σ 7 6 x) := rfl
theorem X_at_8 (d : jD) (σ : jS) : (wX d σ)[8]? = some (d.2.1 8, .inl (d.2.2.1 1, 120, .inl (σ.1 8))) := rfl
theorem X_sa_8 (d : jD) (σ : jS) (f : Nat → Int32) : (wX d σ).set 8 (d.2.1 8, .inl (d.2.2.1 1, 120, .inl f)) = wX d (jc σ 8 f) := rfl
theorem X_at_9 (d : jD) (σ : jS) : (wX d σ)[9]? = some (d.2.1 9, .inl (d.2.2.1 0, 121, .inl (σ.1 9))) := rfl
theorem X_sa_9 (d : jD) (σ : jS) (f : Nat → Int32) : (wX d σ).set 9 (d.2.1 9, .inl (d.2.2.1 0, 121, .inl f)) = wX d (jc σ 9 f) := rfl
theorem X_at_10 (d : jD) (σ : jS) : (wX d σ)[10]? = some (d.2.1 10, .inl (d.2.2.1 0, 121, .inl (σ.1 10))) := rfl
theorem X_sa_10 (d : jD) (σ : jS) (f : Nat → Int32) : (wX d σ).set 10 (d.2.1 10, .inl (d.2.2.1 0, 121, .inl f)) = wX d (jc σ 10 f) := rfl
theorem X_at_11 (d : jD) (σ : jS) : (wX d σ)[11]? = some (d.2.1 11, .inl (d.2.2.1 0, 64, .inl (σ.1 11))) := rfl
theorem X_sa_11 (d : jD) (σ : jS) (f : Nat → Int32) : (wX d σ).set 11 (d.2.1 11, .inl (d.2.2.1 0, 64, .inl f)) = wX d (jc σ 11 f) := rfl
theorem X_at_12 (d : jD) (σ : jS) : (wX d σ)[12]? = some (d.2.1 12, .inl (d.2.2.1 0, 6, .inl (σ.1 12))) := rfl
theorem X_sa_12 (d : jD) (σ : jS) (f : Nat → Int32) : (wX d σ).set 12 (d.2.1 12, .inl (d.2.2.1 0, 6, .inl f)) = wX d (jc σ 12 f) := rfl
theorem X_at_13 (d : jD) (σ : jS) : (wX d σ)[13]? = some (d.2.1 13, .inr (8, [.ref (d.2.1 1), .ref (d.2.1 7), .ref (d.2.1 14), .ref (d.2.1 15)])) := rfl
theorem X_at_14 (d : jD) (σ : jS) : (wX d σ)[14]? = some (d.2.1 14, .inr (10, [.int (σ.1 14 0), .int (σ.1 14 1), .int (σ.1 14 2), .int (σ.1 14 3), .int (σ.1 14 4), .int (σ.1 14 5), .int (σ.1 14 6), .int (σ.1 14 7)])) := rfl
theorem X_sf_14_0 (d : jD) (σ : jS) (x : Int32) : (wX d σ).set 14 (d.2.1 14, .inr (10, [.int x, .int (σ.1 14 1), .int (σ.1 14 2), .int (σ.1 14 3), .int (σ.1 14 4), .int (σ.1 14 5), .int (σ.1 14 6), .int (σ.1 14 7)])) = wX d (ju σ 14 0 x) := rfl
theorem X_sf_14_1 (d : jD) (σ : jS) (x : Int32) : (wX d σ).set 14 (d.2.1 14, .inr (10, [.int (σ.1 14 0), .int x, .int (σ.1 14 2), .int (σ.1 14 3), .int (σ.1 14 4), .int (σ.1 14 5), .int (σ.1 14 6), .int (σ.1 14 7)])) = wX d (ju σ 14 1 x) := rfl
theorem X_sf_14_2 (d : jD) (σ : jS) (x : Int32) : (wX d σ).set 14 (d.2.1 14, .inr (10, [.int (σ.1 14 0), .int (σ.1 14 1), .int x, .int (σ.1 14 3), .int (σ.1 14 4), .int (σ.1 14 5), .int (σ.1 14 6), .int (σ.1 14 7)])) = wX d (ju σ 14 2 x) := rfl
theorem X_sf_14_3 (d : jD) (σ : jS) (x : Int32) : (wX d σ).set 14 (d.2.1 14, .inr (10, [.int (σ.1 14 0), .int (σ.1 14 1), .int (σ.1 14 2), .int x, .int (σ.1 14 4), .int (σ.1 14 5), .int (σ.1 14 6), .int (σ.1 14 7)])) = wX d (ju σ 14 3 x) := rfl
theorem X_sf_14_4 (d : jD) (σ : jS) (x : Int32) : (wX d σ).set 14 (d.2.1 14, .inr (10, [.int (σ.1 14 0), .int (σ.1 14 1), .int (σ.1 14 2), .int (σ.1 14 3), .int x, .int (σ.1 14 5), .int (σ.1 14 6), .int (σ.1 14 7)])) = wX d (ju σ 14 4 x) := rfl
theorem X_sf_14_5 (d : jD) (σ : jS) (x : Int32) : (wX d σ).set 14 (d.2.1 14, .inr (10, [.int (σ.1 14 0), .int (σ.1 14 1), .int (σ.1 14 2), .int (σ.1 14 3), .int (σ.1 14 4), .int x, .int (σ.1 14 6), .int (σ.1 14 7)])) = wX d (ju σ 14 5 x) := rfl
theorem X_sf_14_6 (d : jD) (σ : jS) (x : Int32) : (wX d σ).set 14 (d.2.1 14, .inr (10, [.int (σ.1 14 0), .int (σ.1 14 1), .int (σ.1 14 2), .int (σ.1 14 3), .int (σ.1 14 4), .int (σ.1 14 5), .int x, .int (σ.1 14 7)])) = wX d (ju σ 14 6 x) := rfl
theorem X_sf_14_7 (d : jD) (σ : jS) (x : Int32) : (wX d σ).set 14 (d.2.1 14, .inr (10, [.int (σ.1 14 0), .int (σ.1 14 1), .int (σ.1 14 2), .int (σ.1 14 3), .int (σ.1 14 4), .int (σ.1 14 5), .int (σ.1 14 6), .int x])) = wX d (ju σ 14 7 x) := rfl
theorem X_at_15 (d : jD) (σ : jS) : (wX d σ)[15]? = some (d.2.1 15, .inl (d.2.2.1 0, 60, .inl (σ.1 15))) := rfl
theorem X_sa_15 (d : jD) (σ : jS) (f : Nat → Int32) : (wX d σ).set 15 (d.2.1 15, .inl (d.2.2.1 0, 60, .inl f)) = wX d (jc σ 15 f) := rfl
theorem X_at_16 (d : jD) (σ : jS) : (wX d σ)[16]? = some (d.2.1 16, .inl (d.2.2.1 4, 3, .inr (.inr (.inr (.inr (fun k => some (d.2.1 (17 + 5 * k)))))))) := rfl
theorem X_at_17 (d : jD) (σ : jS) : (wX d σ)[17]? = some (d.2.1 17, .inr (5, [.ref (d.2.1 1), .ref (d.2.1 13), .int (σ.1 17 2), .ref (d.2.1 18), .ref (d.2.1 19), .ref (d.2.1 20), .ref (d.2.1 21), .int (σ.1 17 7), .int (σ.1 17 8)])) := rfl
theorem X_sf_17_7 (d : jD) (σ : jS) (x : Int32) : (wX d σ).set 17 (d.2.1 17, .inr (5, [.ref (d.2.1 1), .ref (d.2.1 13), .int (σ.1 17 2), .ref (d.2.1 18), .ref (d.2.1 19), .ref (d.2.1 20), .ref (d.2.1 21), .int x, .int (σ.1 17 8)])) = wX d (ju σ 17 7 x) := rfl
theorem X_sf_17_8 (d : jD) (σ : jS) (x : Int32) : (wX d σ).set 17 (d.2.1 17, .inr (5, [.ref (d.2.1 1), .ref (d.2.1 13), .int (σ.1 17 2), .ref (d.2.1 18), .ref (d.2.1 19), .ref (d.2.1 20), .ref (d.2.1 21), .int (σ.1 17 7), .int x])) = wX d (ju σ 17 8 x) := rfl
theorem X_at_18 (d : jD) (σ : jS) : (wX d σ)[18]? = some (d.2.1 18, .inl (d.2.2.1 0, 9, .inl (σ.1 18))) := rfl
theorem X_sa_18 (d : jD) (σ : jS) (f : Nat → Int32) : (wX d σ).set 18 (d.2.1 18, .inl (d.2.2.1 0, 9, .inl f)) = wX d (jc σ 18 f) := rfl
theorem X_at_19 (d : jD) (σ : jS) : (wX d σ)[19]? = some (d.2.1 19, .inl (d.2.2.1 0, 9, .inl (σ.1 19))) := rfl
theorem X_sa_19 (d : jD) (σ : jS) (f : Nat → Int32) : (wX d σ).set 19 (d.2.1 19, .inl (d.2.2.1 0, 9, .inl f)) = wX d (jc σ 19 f) := rfl
theorem X_at_20 (d : jD) (σ : jS) : (wX d σ)[20]? = some (d.2.1 20, .inl (d.2.2.1 0, 9, .inl (σ.1 20))) := rfl
theorem X_sa_20 (d : jD) (σ : jS) (f : Nat → Int32) : (wX d σ).set 20 (d.2.1 20, .inl (d.2.2.1 0, 9, .inl f)) = wX d (jc σ 20 f) := rfl
theorem X_at_21 (d : jD) (σ : jS) : (wX d σ)[21]? = some (d.2.1 21, .inl (d.2.2.1 0, 9, .inl (σ.1 21))) := rfl
theorem X_sa_21 (d : jD) (σ : jS) (f : Nat → Int32) : (wX d σ).set 21 (d.2.1 21, .inl (d.2.2.1 0, 9, .inl f)) = wX d (jc σ 21 f) := rfl
theorem X_at_22 (d : jD) (σ : jS) : (wX d σ)[22]? = some (d.2.1 22, .inr (5, [.ref (d.2.1 1), .ref (d.2.1 13), .int (σ.1 22 2), .ref (d.2.1 23), .ref (d.2.1 24), .ref (d.2.1 25), .ref (d.2.1 26), .int (σ.1 22 7), .int (σ.1 22 8)])) := rfl
theorem X_sf_22_7 (d : jD) (σ : jS) (x : Int32) : (wX d σ).set 22 (d.2.1 22, .inr (5, [.ref (d.2.1 1), .ref (d.2.1 13), .int (σ.1 22 2), .ref (d.2.1 23), .ref (d.2.1 24), .ref (d.2.1 25), .ref (d.2.1 26), .int x, .int (σ.1 22 8)])) = wX d (ju σ 22 7 x) := rfl
theorem X_sf_22_8 (d : jD) (σ : jS) (x : Int32) : (wX d σ).set 22 (d.2.1 22, .inr (5, [.ref (d.2.1 1), .ref (d.2.1 13), .int (σ.1 22 2), .ref (d.2.1 23), .ref (d.2.1 24), .ref (d.2.1 25), .ref (d.2.1 26), .int (σ.1 22 7), .int x])) = wX d (ju σ 22 8 x) := rfl
theorem X_at_23 (d : jD) (σ : jS) : (wX d σ)[23]? = some (d.2.1 23, .inl (d.2.2.1 0, 9, .inl (σ.1 23))) := rfl
theorem X_sa_23 (d : jD) (σ : jS) (f : Nat → Int32) : (wX d σ).set 23 (d.2.1 23, .inl (d.2.2.1 0, 9, .inl f)) = wX d (jc σ 23 f) := rfl
theorem X_at_24 (d : jD) (σ : jS) : (wX d σ)[24]? = some (d.2.1 24, .inl (d.2.2.1 0, 9, .inl (σ.1 24))) := rfl
theorem X_sa_24 (d : jD) (σ : jS) (f : Nat → Int32) : (wX d σ).set 24 (d.2.1 24, .inl (d.2.2.1 0, 9, .inl f)) = wX d (jc σ 24 f) := rfl
theorem X_at_25 (d : jD) (σ : jS) : (wX d σ)[25]? = some (d.2.1 25, .inl (d.2.2.1 0, 9, .inl (σ.1 25))) := rfl
theorem X_sa_25 (d : jD) (σ : jS) (f : Nat → Int32) : (wX d σ).set 25 (d.2.1 25, .inl (d.2.2.1 0, 9, .inl f)) = wX d (jc σ 25 f) := rfl
theorem X_at_26 (d : jD) (σ : jS) : (wX d σ)[26]? = some (d.2.1 26, .inl (d.2.2.1 0, 9, .inl (σ.1 26))) := rfl
theorem X_sa_26 (d : jD) (σ : jS) (f : Nat → Int32) : (wX d σ).set 26 (d.2.1 26, .inl (d.2.2.1 0, 9, .inl f)) = wX d (jc σ 26 f) := rfl
theorem X_at_27 (d : jD) (σ : jS) : (wX d σ)[27]? = some (d.2.1 27, .inr (5, [.ref (d.2.1 1), .ref (d.2.1 13), .int (σ.1 27 2), .ref (d.2.1 28), .ref (d.2.1 29), .ref (d.2.1 30), .ref (d.2.1 31), .int (σ.1 27 7), .int (σ.1 27 8)])) := rfl
theorem X_sf_27_7 (d : jD) (σ : jS) (x : Int32) : (wX d σ).set 27 (d.2.1 27, .inr (5, [.ref (d.2.1 1), .ref (d.2.1 13), .int (σ.1 27 2), .ref (d.2.1 28), .ref (d.2.1 29), .ref (d.2.1 30), .ref (d.2.1 31), .int x, .int (σ.1 27 8)])) = wX d (ju σ 27 7 x) := rfl
theorem X_sf_27_8 (d : jD) (σ : jS) (x : Int32) : (wX d σ).set 27 (d.2.1 27, .inr (5, [.ref (d.2.1 1), .ref (d.2.1 13), .int (σ.1 27 2), .ref (d.2.1 28), .ref (d.2.1 29), .ref (d.2.1 30), .ref (d.2.1 31), .int (σ.1 27 7), .int x])) = wX d (ju σ 27 8 x) := rfl
theorem X_at_28 (d : jD) (σ : jS) : (wX d σ)[28]? = some (d.2.1 28, .inl (d.2.2.1 0, 9, .inl (σ.1 28))) := rfl
theorem X_sa_28 (d : jD) (σ : jS) (f : Nat → Int32) : (wX d σ).set 28 (d.2.1 28, .inl (d.2.2.1 0, 9, .inl f)) = wX d (jc σ 28 f) := rfl
theorem X_at_29 (d : jD) (σ : jS) : (wX d σ)[29]? = some (d.2.1 29, .inl (d.2.2.1 0, 9, .inl (σ.1 29))) := rfl
theorem X_sa_29 (d : jD) (σ : jS) (f : Nat → Int32) : (wX d σ).set 29 (d.2.1 29, .inl (d.2.2.1 0, 9, .inl f)) = wX d (jc σ 29 f) := rfl
theorem X_at_30 (d : jD) (σ : jS) : (wX d σ)[30]? = some (d.2.1 30, .inl (d.2.2.1 0, 9, .inl (σ.1 30))) := rfl
theorem X_sa_30 (d : jD) (σ : jS) (f : Nat → Int32) : (wX d σ).set 30 (d.2.1 30, .inl (d.2.2.1 0, 9, .inl f)) = wX d (jc σ 30 f) := rfl
theorem X_at_31 (d : jD) (σ : jS) : (wX d σ)[31]? = some (d.2.1 31, .inl (d.2.2.1 0, 9, .inl (σ.1 31))) := rfl
theorem X_sa_31 (d : jD) (σ : jS) (f : Nat → Int32) : (wX d σ).set 31 (d.2.1 31, .inl (d.2.2.1 0, 9, .inl f)) = wX d (jc σ 31 f) := rfl
theorem X_at_32 (d : jD) (σ : jS) : (wX d σ)[32]? = some (d.2.1 32, .inr (7, [.ref (d.2.1 33), .ref (d.2.1 34), .ref (d.2.1 35), .int (σ.1 32 3), .int (σ.1 32 4)])) := rfl
theorem X_sf_32_3 (d : jD) (σ : jS) (x : Int32) : (wX d σ).set 32 (d.2.1 32, .inr (7, [.ref (d.2.1 33), .ref (d.2.1 34), .ref (d.2.1 35), .int x, .int (σ.1 32 4)])) = wX d (ju σ 32 3 x) := rfl
theorem X_sf_32_4 (d : jD) (σ : jS) (x : Int32) : (wX d σ).set 32 (d.2.1 32, .inr (7, [.ref (d.2.1 33), .ref (d.2.1 34), .ref (d.2.1 35), .int (σ.1 32 3), .int x])) = wX d (ju σ 32 4 x) := rfl
theorem X_at_33 (d : jD) (σ : jS) : (wX d σ)[33]? = some (d.2.1 33, .inl (d.2.2.1 0, 25, .inl (σ.1 33))) := rfl
theorem X_sa_33 (d : jD) (σ : jS) (f : Nat → Int32) : (wX d σ).set 33 (d.2.1 33, .inl (d.2.2.1 0, 25, .inl f)) = wX d (jc σ 33 f) := rfl
theorem X_at_34 (d : jD) (σ : jS) : (wX d σ)[34]? = some (d.2.1 34, .inl (d.2.2.1 0, 5, .inl (σ.1 34))) := rfl
theorem X_sa_34 (d : jD) (σ : jS) (f : Nat → Int32) : (wX d σ).set 34 (d.2.1 34, .inl (d.2.2.1 0, 5, .inl f)) = wX d (jc σ 34 f) := rfl
theorem X_at_35 (d : jD) (σ : jS) : (wX d σ)[35]? = some (d.2.1 35, .inl (d.2.2.1 0, 5, .inl (σ.1 35))) := rfl
theorem X_sa_35 (d : jD) (σ : jS) (f : Nat → Int32) : (wX d σ).set 35 (d.2.1 35, .inl (d.2.2.1 0, 5, .inl f)) = wX d (jc σ 35 f) := rfl
theorem X_at_36 (d : jD) (σ : jS) : (wX d σ)[36]? = some (d.2.1 36, .inr (3, [.int (σ.1 36 0), .int (σ.1 36 1)])) := rfl
theorem X_sf_36_0 (d : jD) (σ : jS) (x : Int32) : (wX d σ).set 36 (d.2.1 36, .inr (3, [.int x, .int (σ.1 36 1)])) = wX d (ju σ 36 0 x) := rfl
theorem X_sf_36_1 (d : jD) (σ : jS) (x : Int32) : (wX d σ).set 36 (d.2.1 36, .inr (3, [.int (σ.1 36 0), .int x])) = wX d (ju σ 36 1 x) := rfl
theorem X_at_37 (d : jD) (σ : jS) : (wX d σ)[37]? = some (d.2.1 37, .inr (2, [.ref (d.2.1 38), .int (jb (σ.1 37 1)), .int (σ.1 37 2), .int (σ.1 37 3), .int (σ.1 37 4), .int (σ.1 37 5), .int (σ.1 37 6), .int (σ.1 37 7)])) := rfl
theorem X_sf_37_1 (d : jD) (σ : jS) (x : Int32) : (wX d σ).set 37 (d.2.1 37, .inr (2, [.ref (d.2.1 38), .int (jb x), .int (σ.1 37 2), .int (σ.1 37 3), .int (σ.1 37 4), .int (σ.1 37 5), .int (σ.1 37 6), .int (σ.1 37 7)])) = wX d (ju σ 37 1 x) := rfl
theorem X_sf_37_2 (d : jD) (σ : jS) (x : Int32) : (wX d σ).set 37 (d.2.1 37, .inr (2, [.ref (d.2.1 38), .int (jb (σ.1 37 1)), .int x, .int (σ.1 37 3), .int (σ.1 37 4), .int (σ.1 37 5), .int (σ.1 37 6), .int (σ.1 37 7)])) = wX d (ju σ 37 2 x) := rfl
theorem X_sf_37_3 (d : jD) (σ : jS) (x : Int32) : (wX d σ).set 37 (d.2.1 37, .inr (2, [.ref (d.2.1 38), .int (jb (σ.1 37 1)), .int (σ.1 37 2), .int x, .int (σ.1 37 4), .int (σ.1 37 5), .int (σ.1 37 6), .int (σ.1 37 7)])) = wX d (ju σ 37 3 x) := rfl
theorem X_sf_37_4 (d : jD) (σ : jS) (x : Int32) : (wX d σ).set 37 (d.2.1 37, .inr (2, [.ref (d.2.1 38), .int (jb (σ.1 37 1)), .int (σ.1 37 2), .int (σ.1 37 3), .int x, .int (σ.1 37 5), .int (σ.1 37 6), .int (σ.1 37 7)])) = wX d (ju σ 37 4 x) := rfl
theorem X_sf_37_5 (d : jD) (σ : jS) (x : Int32) : (wX d σ).set 37 (d.2.1 37, .inr (2, [.ref (d.2.1 38), .int (jb (σ.1 37 1)), .int (σ.1 37 2), .int (σ.1 37 3), .int (σ.1 37 4), .int x, .int (σ.1 37 6), .int (σ.1 37 7)])) = wX d (ju σ 37 5 x) := rfl
theorem X_sf_37_6 (d : jD) (σ : jS) (x : Int32) : (wX d σ).set 37 (d.2.1 37, .inr (2, [.ref (d.2.1 38), .int (jb (σ.1 37 1)), .int (σ.1 37 2), .int (σ.1 37 3), .int (σ.1 37 4), .int (σ.1 37 5), .int x, .int (σ.1 37 7)])) = wX d (ju σ 37 6 x) := rfl
theorem X_sf_37_7 (d : jD) (σ : jS) (x : Int32) : (wX d σ).set 37 (d.2.1 37, .inr (2, [.ref (d.2.1 38), .int (jb (σ.1 37 1)), .int (σ.1 37 2), .int (σ.1 37 3), .int (σ.1 37 4), .int (σ.1 37 5), .int (σ.1 37 6), .int x])) = wX d (ju σ 37 7 x) := rfl
theorem X_at_38 (d : jD) (σ : jS) : (wX d σ)[38]? = some (d.2.1 38, .inr (10, [.int (σ.1 38 0), .int (σ.1 38 1), .int (σ.1 38 2), .int (σ.1 38 3), .int (σ.1 38 4), .int (σ.1 38 5), .int (σ.1 38 6), .int (σ.1 38 7)])) := rfl
theorem X_sf_38_0 (d : jD) (σ : jS) (x : Int32) : (wX d σ).set 38 (d.2.1 38, .inr (10, [.int x, .int (σ.1 38 1), .int (σ.1 38 2), .int (σ.1 38 3), .int (σ.1 38 4), .int (σ.1 38 5), .int (σ.1 38 6), .int (σ.1 38 7)])) = wX d (ju σ 38 0 x) := rfl
theorem X_sf_38_1 (d : jD) (σ : jS) (x : Int32) : (wX d σ).set 38 (d.2.1 38, .inr (10, [.int (σ.1 38 0), .int x, .int (σ.1 38 2), .int (σ.1 38 3), .int (σ.1 38 4), .int (σ.1 38 5), .int (σ.1 38 6), .int (σ.1 38 7)])) = wX d (ju σ 38 1 x) := rfl
theorem X_sf_38_2 (d : jD) (σ : jS) (x : Int32) : (wX d σ).set 38 (d.2.1 38, .inr (10, [.int (σ.1 38 0), .int (σ.1 38 1), .int x, .int (σ.1 38 3), .int (σ.1 38 4), .int (σ.1 38 5), .int (σ.1 38 6), .int (σ.1 38 7)])) = wX d (ju σ 38 2 x) := rfl
theorem X_sf_38_3 (d : jD) (σ : jS) (x : Int32) : (wX d σ).set 38 (d.2.1 38, .inr (10, [.int (σ.1 38 0), .int (σ.1 38 1), .int (σ.1 38 2), .int x, .int (σ.1 38 4), .int (σ.1 38 5), .int (σ.1 38 6), .int (σ.1 38 7)])) = wX d (ju σ 38 3 x) := rfl
theorem X_sf_38_4 (d : jD) (σ : jS) (x : Int32) : (wX d σ).set 38 (d.2.1 38, .inr (10, [.int (σ.1 38 0), .int (σ.1 38 1), .int (σ.1 38 2), .int (σ.1 38 3), .int x, .int (σ.1 38 5), .int (σ.1 38 6), .int (σ.1 38 7)])) = wX d (ju σ 38 4 x) := rfl
theorem X_sf_38_5 (d : jD) (σ : jS) (x : Int32) : (wX d σ).set 38 (d.2.1 38, .inr (10, [.int (σ.1 38 0), .int (σ.1 38 1), .int (σ.1 38 2), .int (σ.1 38 3), .int (σ.1 38 4), .int x, .int (σ.1 38 6), .int (σ.1 38 7)])) = wX d (ju σ 38 5 x) := rfl
theorem X_sf_38_6 (d : jD) (σ : jS) (x : Int32) : (wX d σ).set 38 (d.2.1 38, .inr (10, [.int (σ.1 38 0), .int (σ.1 38 1), .int (σ.1 38 2), .int (σ.1 38 3), .int (σ.1 38 4), .int (σ.1 38 5), .int x, .int (σ.1 38 7)])) = wX d (ju σ 38 6 x) := rfl
theorem X_sf_38_7 (d : jD) (σ : jS) (x : Int32) : (wX d σ).set 38 (d.2.1 38, .inr (10, [.int (σ.1 38 0), .int (σ.1 38 1), .int (σ.1 38 2), .int (σ.1 38 3), .int (σ.1 38 4), .int (σ.1 38 5), .int (σ.1 38 6), .int x])) = wX d (ju σ 38 7 x) := rfl
theorem X_at_39 (d : jD) (σ : jS) : (wX d σ)[39]? = some (d.2.1 39, .inr (2, [.ref (d.2.1 40), .int (jb (σ.1 39 1)), .int (σ.1 39 2), .int (σ.1 39 3), .int (σ.1 39 4), .int (σ.1 39 5), .int (σ.1 39 6), .int (σ.1 39 7)])) := rfl
theorem X_sf_39_1 (d : jD) (σ : jS) (x : Int32) : (wX d σ).set 39 (d.2.1 39, .inr (2, [.ref (d.2.1 40), .int (jb x), .int (σ.1 39 2), .int (σ.1 39 3), .int (σ.1 39 4), .int (σ.1 39 5), .int (σ.1 39 6), .int (σ.1 39 7)])) = wX d (ju σ 39 1 x) := rfl
theorem X_sf_39_2 (d : jD) (σ : jS) (x : Int32) : (wX d σ).set 39 (d.2.1 39, .inr (2, [.ref (d.2.1 40), .int (jb (σ.1 39 1)), .int x, .int (σ.1 39 3), .int (σ.1 39 4), .int (σ.1 39 5), .int (σ.1 39 6), .int (σ.1 39 7)])) = wX d (ju σ 39 2 x) := rfl
theorem X_sf_39_3 (d : jD) (σ : jS) (x : Int32) : (wX d σ).set 39 (d.2.1 39, .inr (2, [.ref (d.2.1 40), .int (jb (σ.1 39 1)), .int (σ.1 39 2), .int x, .int (σ.1 39 4), .int (σ.1 39 5), .int (σ.1 39 6), .int (σ.1 39 7)])) = wX d (ju σ 39 3 x) := rfl
theorem X_sf_39_4 (d : jD) (σ : jS) (x : Int32) : (wX d σ).set 39 (d.2.1 39, .inr (2, [.ref (d.2.1 40), .int (jb (σ.1 39 1)), .int (σ.1 39 2), .int (σ.1 39 3), .int x, .int (σ.1 39 5), .int (σ.1 39 6), .int (σ.1 39 7)])) = wX d (ju σ 39 4 x) := rfl
theorem X_sf_39_5 (d : jD) (σ : jS) (x : Int32) : (wX d σ).set 39 (d.2.1 39, .inr (2, [.ref (d.2.1 40), .int (jb (σ.1 39 1)), .int (σ.1 39 2), .int (σ.1 39 3), .int (σ.1 39 4), .int x, .int (σ.1 39 6), .int (σ.1 39 7)])) = wX d (ju σ 39 5 x) := rfl
theorem X_sf_39_6 (d : jD) (σ : jS) (x : Int32) : (wX d σ).set 39 (d.2.1 39, .inr (2, [.ref (d.2.1 40), .int (jb (σ.1 39 1)), .int (σ.1 39 2), .int (σ.1 39 3), .int (σ.1 39 4), .int (σ.1 39 5), .int x, .int (σ.1 39 7)])) = wX d (ju σ 39 6 x) := rfl
theorem X_sf_39_7 (d : jD) (σ : jS) (x : Int32) : (wX d σ).set 39 (d.2.1 39, .inr (2, [.ref (d.2.1 40), .int (jb (σ.1 39 1)), .int (σ.1 39 2), .int (σ.1 39 3), .int (σ.1 39 4), .int (σ.1 39 5), .int (σ.1 39 6), .int x])) = wX d (ju σ 39 7 x) := rfl
theorem X_at_40 (d : jD) (σ : jS) : (wX d σ)[40]? = some (d.2.1 40, .inr (10, [.int (σ.1 40 0), .int (σ.1 40 1), .int (σ.1 40 2), .int (σ.1 40 3), .int (σ.1 40 4), .int (σ.1 40 5), .int (σ.1 40 6), .int (σ.1 40 7)])) := rfl
theorem X_sf_40_0 (d : jD) (σ : jS) (x : Int32) : (wX d σ).set 40 (d.2.1 40, .inr (10, [.int x, .int (σ.1 40 1), .int (σ.1 40 2), .int (σ.1 40 3), .int (σ.1 40 4), .int (σ.1 40 5), .int (σ.1 40 6), .int (σ.1 40 7)])) = wX d (ju σ 40 0 x) := rfl
theorem X_sf_40_1 (d : jD) (σ : jS) (x : Int32) : (wX d σ).set 40 (d.2.1 40, .inr (10, [.int (σ.1 40 0), .int x, .int (σ.1 40 2), .int (σ.1 40 3), .int (σ.1 40 4), .int (σ.1 40 5), .int (σ.1 40 6), .int (σ.1 40 7)])) = wX d (ju σ 40 1 x) := rfl
theorem X_sf_40_2 (d : jD) (σ : jS) (x : Int32) : (wX d σ).set 40 (d.2.1 40, .inr (10, [.int (σ.1 40 0), .int (σ.1 40 1), .int x, .int (σ.1 40 3), .int (σ.1 40 4), .int (σ.1 40 5), .int (σ.1 40 6), .int (σ.1 40 7)])) = wX d (ju σ 40 2 x) := rfl
theorem X_sf_40_3 (d : jD) (σ : jS) (x : Int32) : (wX d σ).set 40 (d.2.1 40, .inr (10, [.int (σ.1 40 0), .int (σ.1 40 1), .int (σ.1 40 2), .int x, .int (σ.1 40 4), .int (σ.1 40 5), .int (σ.1 40 6), .int (σ.1 40 7)])) = wX d (ju σ 40 3 x) := rfl
theorem X_sf_40_4 (d : jD) (σ : jS) (x : Int32) : (wX d σ).set 40 (d.2.1 40, .inr (10, [.int (σ.1 40 0), .int (σ.1 40 1), .int (σ.1 40 2), .int (σ.1 40 3), .int x, .int (σ.1 40 5), .int (σ.1 40 6), .int (σ.1 40 7)])) = wX d (ju σ 40 4 x) := rfl
theorem X_sf_40_5 (d : jD) (σ : jS) (x : Int32) : (wX d σ).set 40 (d.2.1 40, .inr (10, [.int (σ.1 40 0), .int (σ.1 40 1), .int (σ.1 40 2), .int (σ.1 40 3), .int (σ.1 40 4), .int x, .int (σ.1 40 6), .int (σ.1 40 7)])) = wX d (ju σ 40 5 x) := rfl
theorem X_sf_40_6 (d : jD) (σ : jS) (x : Int32) : (wX d σ).set 40 (d.2.1 40, .inr (10, [.int (σ.1 40 0), .int (σ.1 40 1), .int (σ.1 40 2), .int (σ.1 40 3), .int (σ.1 40 4), .int (σ.1 40 5), .int x, .int (σ.1 40 7)])) = wX d (ju σ 40 6 x) := rfl
theorem X_sf_40_7 (d : jD) (σ : jS) (x : Int32) : (wX d σ).set 40 (d.2.1 40, .inr (10, [.int (σ.1 40 0), .int (σ.1 40 1), .int (σ.1 40 2), .int (σ.1 40 3), .int (σ.1 40 4), .int (σ.1 40 5), .int (σ.1 40 6), .int x])) = wX d (ju σ 40 7 x) := rfl
theorem X_at_41 (d : jD) (σ : jS) : (wX d σ)[41]? = some (d.2.1 41, .inr (0, [.ref (d.2.1 42), .int (σ.1 41 1), .ref (d.2.1 43), .int (σ.1 41 3)])) := rfl
theorem X_sf_41_1 (d : jD) (σ : jS) (x : Int32) : (wX d σ).set 41 (d.2.1 41, .inr (0, [.ref (d.2.1 42), .int x, .ref (d.2.1 43), .int (σ.1 41 3)])) = wX d (ju σ 41 1 x) := rfl
theorem X_sf_41_3 (d : jD) (σ : jS) (x : Int32) : (wX d σ).set 41 (d.2.1 41, .inr (0, [.ref (d.2.1 42), .int (σ.1 41 1), .ref (d.2.1 43), .int x])) = wX d (ju σ 41 3 x) := rfl
theorem X_at_42 (d : jD) (σ : jS) : (wX d σ)[42]? = some (d.2.1 42, .inl (d.2.2.1 0, 50, .inl (σ.1 42))) := rfl
theorem X_sa_42 (d : jD) (σ : jS) (f : Nat → Int32) : (wX d σ).set 42 (d.2.1 42, .inl (d.2.2.1 0, 50, .inl f)) = wX d (jc σ 42 f) := rfl
theorem X_at_43 (d : jD) (σ : jS) : (wX d σ)[43]? = some (d.2.1 43, .inl (d.2.2.1 0, 24, .inl (σ.1 43))) := rfl
theorem X_sa_43 (d : jD) (σ : jS) (f : Nat → Int32) : (wX d σ).set 43 (d.2.1 43, .inl (d.2.2.1 0, 24, .inl f)) = wX d (jc σ 43 f) := rfl
theorem X_at_44 (d : jD) (σ : jS) : (wX d σ)[44]? = some (d.2.1 44, .inr (9, [.ref (d.2.1 45), .ref (d.2.1 46), .ref (d.2.1 47), .ref (d.2.1 48), .ref (d.2.1 49)])) := rfl
theorem X_at_45 (d : jD) (σ : jS) : (wX d σ)[45]? = some (d.2.1 45, .inl (d.2.2.1 0, 6, .inl (σ.1 45))) := rfl
theorem X_sa_45 (d : jD) (σ : jS) (f : Nat → Int32) : (wX d σ).set 45 (d.2.1 45, .inl (d.2.2.1 0, 6, .inl f)) = wX d (jc σ 45 f) := rfl
theorem X_at_46 (d : jD) (σ : jS) : (wX d σ)[46]? = some (d.2.1 46, .inl (d.2.2.1 0, 6, .inl (σ.1 46))) := rfl
theorem X_sa_46 (d : jD) (σ : jS) (f : Nat → Int32) : (wX d σ).set 46 (d.2.1 46, .inl (d.2.2.1 0, 6, .inl f)) = wX d (jc σ 46 f) := rfl
theorem X_at_47 (d : jD) (σ : jS) : (wX d σ)[47]? = some (d.2.1 47, .inl (d.2.2.1 0, 6, .inl (σ.1 47))) := rfl
theorem X_sa_47 (d : jD) (σ : jS) (f : Nat → Int32) : (wX d σ).set 47 (d.2.1 47, .inl (d.2.2.1 0, 6, .inl f)) = wX d (jc σ 47 f) := rfl
theorem X_at_48 (d : jD) (σ : jS) : (wX d σ)[48]? = some (d.2.1 48, .inl (d.2.2.1 0, 6, .inl (σ.1 48))) := rfl
theorem X_sa_48 (d : jD) (σ : jS) (f : Nat → Int32) : (wX d σ).set 48 (d.2.1 48, .inl (d.2.2.1 0, 6, .inl f)) = wX d (jc σ 48 f) := rfl
theorem X_at_49 (d : jD) (σ : jS) : (wX d σ)[49]? = some (d.2.1 49, .inl (d.2.2.1 3, 360, .inr (.inl (σ.2 49)))) := rfl
theorem X_sa_49 (d : jD) (σ : jS) (f : Nat → Int64) : (wX d σ).set 49 (d.2.1 49, .inl (d.2.2.1 3, 360, .inr (.inl f))) = wX d (jcl σ 49 f) := rfl
theorem X_ln (d : jD) (σ : jS) {o : Nat} (h : jLn o) : (wX d σ)[o]? = some (d.2.1 o, .inr (5, [.ref (d.2.1 1), .ref (d.2.1 13), .int (σ.1 o 2), .ref (d.2.1 (o + 1)), .ref (d.2.1 (o + 2)), .ref (d.2.1 (o + 3)), .ref (d.2.1 (o + 4)), .int (σ.1 o 7), .int (σ.1 o 8)])) := by
  rcases h with rfl|rfl|rfl <;> rfl
theorem X_lnf_7 (d : jD) (σ : jS) (x : Int32) {o : Nat} (h : jLn o) : (wX d σ).set o (d.2.1 o, .inr (5, [.ref (d.2.1 1), .ref (d.2.1 13), .int (σ.1 o 2), .ref (d.2.1 (o + 1)), .ref (d.2.1 (o + 2)), .ref (d.2.1 (o + 3)), .ref (d.2.1 (o + 4)), .int x, .int (σ.1 o 8)])) = wX d (ju σ o 7 x) := by
  rcases h with rfl|rfl|rfl <;> rfl
theorem X_lnf_8 (d : jD) (σ : jS) (x : Int32) {o : Nat} (h : jLn o) : (wX d σ).set o (d.2.1 o, .inr (5, [.ref (d.2.1 1), .ref (d.2.1 13), .int (σ.1 o 2), .ref (d.2.1 (o + 1)), .ref (d.2.1 (o + 2)), .ref (d.2.1 (o + 3)), .ref (d.2.1 (o + 4)), .int (σ.1 o 7), .int x])) = wX d (ju σ o 8 x) := by
  rcases h with rfl|rfl|rfl <;> rfl
theorem X_ln1 (d : jD) (σ : jS) {o : Nat} (h : jLn o) : (wX d σ)[o + 1]? = some (d.2.1 (o + 1), .inl (d.2.2.1 0, 9, .inl (σ.1 (o + 1)))) := by
  rcases h with rfl|rfl|rfl <;> rfl
theorem X_lna_1 (d : jD) (σ : jS) (f : Nat → Int32) {o : Nat} (h : jLn o) : (wX d σ).set (o + 1) (d.2.1 (o + 1), .inl (d.2.2.1 0, 9, .inl f)) = wX d (jc σ (o + 1) f) := by
  rcases h with rfl|rfl|rfl <;> rfl
theorem X_ln2 (d : jD) (σ : jS) {o : Nat} (h : jLn o) : (wX d σ)[o + 2]? = some (d.2.1 (o + 2), .inl (d.2.2.1 0, 9, .inl (σ.1 (o + 2)))) := by
  rcases h with rfl|rfl|rfl <;> rfl
theorem X_lna_2 (d : jD) (σ : jS) (f : Nat → Int32) {o : Nat} (h : jLn o) : (wX d σ).set (o + 2) (d.2.1 (o + 2), .inl (d.2.2.1 0, 9, .inl f)) = wX d (jc σ (o + 2) f) := by
  rcases h with rfl|rfl|rfl <;> rfl
theorem X_ln3 (d : jD) (σ : jS) {o : Nat} (h : jLn o) : (wX d σ)[o + 3]? = some (d.2.1 (o + 3), .inl (d.2.2.1 0, 9, .inl (σ.1 (o + 3)))) := by
  rcases h with rfl|rfl|rfl <;> rfl
theorem X_lna_3 (d : jD) (σ : jS) (f : Nat → Int32) {o : Nat} (h : jLn o) : (wX d σ).set (o + 3) (d.2.1 (o + 3), .inl (d.2.2.1 0, 9, .inl f)) = wX d (jc σ (o + 3) f) := by
  rcases h with rfl|rfl|rfl <;> rfl
theorem X_ln4 (d : jD) (σ : jS) {o : Nat} (h : jLn o) : (wX d σ)[o + 4]? = some (d.2.1 (o + 4), .inl (d.2.2.1 0, 9, .inl (σ.1 (o + 4)))) := by
  rcases h with rfl|rfl|rfl <;> rfl
theorem X_lna_4 (d : jD) (σ : jS) (f : Nat → Int32) {o : Nat} (h : jLn o) : (wX d σ).set (o + 4) (d.2.1 (o + 4), .inl (d.2.2.1 0, 9, .inl f)) = wX d (jc σ (o + 4) f) := by
  rcases h with rfl|rfl|rfl <;> rfl
theorem X_tn (d : jD) (σ : jS) {o : Nat} (h : jTn o) : (wX d σ)[o]? = some (d.2.1 o, .inr (10, [.int (σ.1 o 0), .int (σ.1 o 1), .int (σ.1 o 2), .int (σ.1 o 3), .int (σ.1 o 4), .int (σ.1 o 5), .int (σ.1 o 6), .int (σ.1 o 7)])) := by
  rcases h with rfl|rfl|rfl <;> rfl
theorem X_tnf_0 (d : jD) (σ : jS) (x : Int32) {o : Nat} (h : jTn o) : (wX d σ).set o (d.2.1 o, .inr (10, [.int x, .int (σ.1 o 1), .int (σ.1 o 2), .int (σ.1 o 3), .int (σ.1 o 4), .int (σ.1 o 5), .int (σ.1 o 6), .int (σ.1 o 7)])) = wX d (ju σ o 0 x) := by
  rcases h with rfl|rfl|rfl <;> rfl
theorem X_tnf_1 (d : jD) (σ : jS) (x : Int32) {o : Nat} (h : jTn o) : (wX d σ).set o (d.2.1 o, .inr (10, [.int (σ.1 o 0), .int x, .int (σ.1 o 2), .int (σ.1 o 3), .int (σ.1 o 4), .int (σ.1 o 5), .int (σ.1 o 6), .int (σ.1 o 7)])) = wX d (ju σ o 1 x) := by
  rcases h with rfl|rfl|rfl <;> rfl
theorem X_tnf_2 (d : jD) (σ : jS) (x : Int32) {o : Nat} (h : jTn o) : (wX d σ).set o (d.2.1 o, .inr (10, [.int (σ.1 o 0), .int (σ.1 o 1), .int x, .int (σ.1 o 3), .int (σ.1 o 4), .int (σ.1 o 5), .int (σ.1 o 6), .int (σ.1 o 7)])) = wX d (ju σ o 2 x) := by
  rcases h with rfl|rfl|rfl <;> rfl
theorem X_tnf_3 (d : jD) (σ : jS) (x : Int32) {o : Nat} (h : jTn o) : (wX d σ).set o (d.2.1 o, .inr (10, [.int (σ.1 o 0), .int (σ.1 o 1), .int (σ.1 o 2), .int x, .int (σ.1 o 4), .int (σ.1 o 5), .int (σ.1 o 6), .int (σ.1 o 7)])) = wX d (ju σ o 3 x) := by
  rcases h with rfl|rfl|rfl <;> rfl
theorem X_tnf_4 (d : jD) (σ : jS) (x : Int32) {o : Nat} (h : jTn o) : (wX d σ).set o (d.2.1 o, .inr (10, [.int (σ.1 o 0), .int (σ.1 o 1), .int (σ.1 o 2), .int (σ.1 o 3), .int x, .int (σ.1 o 5), .int (σ.1 o 6), .int (σ.1 o 7)])) = wX d (ju σ o 4 x) := by
  rcases h with rfl|rfl|rfl <;> rfl
theorem X_tnf_5 (d : jD) (σ : jS) (x : Int32) {o : Nat} (h : jTn o) : (wX d σ).set o (d.2.1 o, .inr (10, [.int (σ.1 o 0), .int (σ.1 o 1), .int (σ.1 o 2), .int (σ.1 o 3), .int (σ.1 o 4), .int x, .int (σ.1 o 6), .int (σ.1 o 7)])) = wX d (ju σ o 5 x) := by
  rcases h with rfl|rfl|rfl <;> rfl
theorem X_tnf_6 (d : jD) (σ : jS) (x : Int32) {o : Nat} (h : jTn o) : (wX d σ).set o (d.2.1 o, .inr (10, [.int (σ.1 o 0), .int (σ.1 o 1), .int (σ.1 o 2), .int (σ.1 o 3), .int (σ.1 o 4), .int (σ.1 o 5), .int x, .int (σ.1 o 7)])) = wX d (ju σ o 6 x) := by
  rcases h with rfl|rfl|rfl <;> rfl
theorem X_tnf_7 (d : jD) (σ : jS) (x : Int32) {o : Nat} (h : jTn o) : (wX d σ).set o (d.2.1 o, .inr (10, [.int (σ.1 o 0), .int (σ.1 o 1), .int (σ.1 o 2), .int (σ.1 o 3), .int (σ.1 o 4), .int (σ.1 o 5), .int (σ.1 o 6), .int x])) = wX d (ju σ o 7 x) := by
  rcases h with rfl|rfl|rfl <;> rfl
theorem X_dd (d : jD) (σ : jS) {o : Nat} (h : jDd o) : (wX d σ)[o]? = some (d.2.1 o, .inr (2, [.ref (d.2.1 (o + 1)), .int (jb (σ.1 o 1)), .int (σ.1 o 2), .int (σ.1 o 3), .int (σ.1 o 4), .int (σ.1 o 5), .int (σ.1 o 6), .int (σ.1 o 7)])) := by
  rcases h with rfl|rfl <;> rfl
theorem X_ddf_1 (d : jD) (σ : jS) (x : Int32) {o : Nat} (h : jDd o) : (wX d σ).set o (d.2.1 o, .inr (2, [.ref (d.2.1 (o + 1)), .int (jb x), .int (σ.1 o 2), .int (σ.1 o 3), .int (σ.1 o 4), .int (σ.1 o 5), .int (σ.1 o 6), .int (σ.1 o 7)])) = wX d (ju σ o 1 x) := by
  rcases h with rfl|rfl <;> rfl
theorem X_ddf_2 (d : jD) (σ : jS) (x : Int32) {o : Nat} (h : jDd o) : (wX d σ).set o (d.2.1 o, .inr (2, [.ref (d.2.1 (o + 1)), .int (jb (σ.1 o 1)), .int x, .int (σ.1 o 3), .int (σ.1 o 4), .int (σ.1 o 5), .int (σ.1 o 6), .int (σ.1 o 7)])) = wX d (ju σ o 2 x) := by
  rcases h with rfl|rfl <;> rfl
theorem X_ddf_3 (d : jD) (σ : jS) (x : Int32) {o : Nat} (h : jDd o) : (wX d σ).set o (d.2.1 o, .inr (2, [.ref (d.2.1 (o + 1)), .int (jb (σ.1 o 1)), .int (σ.1 o 2), .int x, .int (σ.1 o 4), .int (σ.1 o 5), .int (σ.1 o 6), .int (σ.1 o 7)])) = wX d (ju σ o 3 x) := by
  rcases h with rfl|rfl <;> rfl
theorem X_ddf_4 (d : jD) (σ : jS) (x : Int32) {o : Nat} (h : jDd o) : (wX d σ).set o (d.2.1 o, .inr (2, [.ref (d.2.1 (o + 1)), .int (jb (σ.1 o 1)), .int (σ.1 o 2), .int (σ.1 o 3), .int x, .int (σ.1 o 5), .int (σ.1 o 6), .int (σ.1 o 7)])) = wX d (ju σ o 4 x) := by
  rcases h with rfl|rfl <;> rfl
theorem X_ddf_5 (d : jD) (σ : jS) (x : Int32) {o : Nat} (h : jDd o) : (wX d σ).set o (d.2.1 o, .inr (2, [.ref (d.2.1 (o + 1)), .int (jb (σ.1 o 1)), .int (σ.1 o 2), .int (σ.1 o 3), .int (σ.1 o 4), .int x, .int (σ.1 o 6), .int (σ.1 o 7)])) = wX d (ju σ o 5 x) := by
  rcases h with rfl|rfl <;> rfl
theorem X_ddf_6 (d : jD) (σ : jS) (x : Int32) {o : Nat} (h : jDd o) : (wX d σ).set o (d.2.1 o, .inr (2, [.ref (d.2.1 (o + 1)), .int (jb (σ.1 o 1)), .int (σ.1 o 2), .int (σ.1 o 3), .int (σ.1 o 4), .int (σ.1 o 5), .int x, .int (σ.1 o 7)])) = wX d (ju σ o 6 x) := by
  rcases h with rfl|rfl <;> rfl
theorem X_ddf_7 (d : jD) (σ : jS) (x : Int32) {o : Nat} (h : jDd o) : (wX d σ).set o (d.2.1 o, .inr (2, [.ref (d.2.1 (o + 1)), .int (jb (σ.1 o 1)), .int (σ.1 o 2), .int (σ.1 o 3), .int (σ.1 o 4), .int (σ.1 o 5), .int (σ.1 o 6), .int x])) = wX d (ju σ o 7 x) := by
  rcases h with rfl|rfl <;> rfl
theorem jDd_tn {o : Nat} (h : jDd o) : jTn (o + 1) := by
  rcases h with rfl|rfl
  · exact Or.inr (Or.inl rfl)
  · exact Or.inr (Or.inr rfl)
def wM (d : jD) (σ : jS) : va_W := [
  (d.2.1 0, .inr (12, [.int (σ.1 0 0), .ref (d.2.1 1), .int (σ.1 0 2), .ref (d.2.1 2), .ref (d.2.1 3), .ref (d.2.1 4), .ref (d.2.1 5), .ref (d.2.1 6), .ref (d.2.1 7), .int (σ.1 0 9), .int (σ.1 0 10), .int (σ.1 0 11), .int (σ.1 0 12), .int (σ.1 0 13), .int (σ.1 0 14), .ref (d.2.1 8), .ref (d.2.1 9), .ref (d.2.1 10), .ref (d.2.1 11), .ref (d.2.1 12), .int (σ.1 0 20), .int (σ.1 0 21), .int (σ.1 0 22), .int (σ.1 0 23), .int (σ.1 0 24), .ref (d.2.1 13), .ref (d.2.1 14), .ref (d.2.1 15), .ref (d.2.1 16), .ref (d.2.1 17), .ref (d.2.1 18), .ref (d.2.1 19), .int (jb (σ.1 0 32)), .int (σ.1 0 33), .int (σ.1 0 34), .int (σ.1 0 35), .int (σ.1 0 36), .ref (d.2.1 20), .ref (d.2.1 21), .ref (d.2.1 22), .ref (d.2.1 23), .ref (d.2.1 24), .int (σ.1 0 42), .ref (d.2.1 25), .ref (d.2.1 26), .int (σ.1 0 45), .ref (d.2.1 27), .ref (d.2.1 28), .int (jb (σ.1 0 48)), .int (σ.1 0 49), .ref (d.2.1 29), .int (σ.1 0 51), .ref (d.2.1 30), .ref (d.2.1 31), .ref (d.2.1 32), .ref (d.2.1 33), .ref (d.2.1 34)])),
  (d.2.1 1, .inl (d.2.2.1 0, 3, .inl (σ.1 1))),
  (d.2.1 2, .inl (d.2.2.1 0, 9, .inl (σ.1 2))),
  (d.2.1 3, .inl (d.2.2.1 0, 9, .inl (σ.1 3))),
  (d.2.1 4, .inl (d.2.2.1 0, 9, .inl (σ.1 4))),
  (d.2.1 5, .inl (d.2.2.1 0, 9, .inl (σ.1 5))),
  (d.2.1 6, .inl (d.2.2.1 0, 9, .inl (σ.1 6))),
  (d.2.1 7, .inl (d.2.2.1 0, 9, .inl (σ.1 7))),
  (d.2.1 8, .inl (d.2.2.1 0, 40, .inl (σ.1 8))),
  (d.2.1 9, .inl (d.2.2.1 0, 40, .inl (σ.1 9))),
  (d.2.1 10, .inl (d.2.2.1 0, 40, .inl (σ.1 10))),
  (d.2.1 11, .inl (d.2.2.1 0, 40, .inl (σ.1 11))),
  (d.2.1 12, .inl (d.2.2.1 1, 120, .inl (σ.1 12))),
  (d.2.1 13, .inl (d.2.2.1 1, 260, .inl (σ.1 13))),
  (d.2.1 14, .inl (d.2.2.1 0, 260, .inl (σ.1 14))),
  (d.2.1 15, .inl (d.2.2.1 0, 2, .inl (σ.1 15))),
  (d.2.1 16, .inl (d.2.2.1 2, 122, .inl (σ.1 16))),
  (d.2.1 17, .inl (d.2.2.1 2, 122, .inl (σ.1 17))),
  (d.2.1 18, .inl (d.2.2.1 0, 6, .inl (σ.1 18))),
  (d.2.1 19, .inl (d.2.2.1 0, 130, .inl (σ.1 19))),
  (d.2.1 20, .inl (d.2.2.1 0, 9, .inl (σ.1 20))),
  (d.2.1 21, .inl (d.2.2.1 0, 9, .inl (σ.1 21))),
  (d.2.1 22, .inl (d.2.2.1 0, 9, .inl (σ.1 22))),
  (d.2.1 23, .inl (d.2.2.1 0, 3, .inl (σ.1 23))),
  (d.2.1 24, .inl (d.2.2.1 0, 9, .inl (σ.1 24))),
  (d.2.1 25, .inl (d.2.2.1 0, 9, .inl (σ.1 25))),
  (d.2.1 26, .inl (d.2.2.1 0, 9, .inl (σ.1 26))),
  (d.2.1 27, .inl (d.2.2.1 0, 10, .inl (σ.1 27))),
  (d.2.1 28, .inl (d.2.2.1 0, 10, .inl (σ.1 28))),
  (d.2.1 29, .inl (d.2.2.1 0, 50, .inl (σ.1 29))),
  (d.2.1 30, .inl (d.2.2.1 0, 24, .inl (σ.1 30))),
  (d.2.1 31, .inl (d.2.2.1 0, 6, .inl (σ.1 31))),
  (d.2.1 32, .inl (d.2.2.1 0, 6, .inl (σ.1 32))),
  (d.2.1 33, .inl (d.2.2.1 3, 360, .inr (.inl (σ.2 33)))),
  (d.2.1 34, .inl (d.2.2.1 3, 60, .inr (.inl (σ.2 34))))]
theorem M_at_0 (d : jD) (σ : jS) : (wM d σ)[0]? = some (d.2.1 0, .inr (12, [.int (σ.1 0 0), .ref (d.2.1 1), .int (σ.1 0 2), .ref (d.2.1 2), .ref (d.2.1 3), .ref (d.2.1 4), .ref (d.2.1 5), .ref (d.2.1 6), .ref (d.2.1 7), .int (σ.1 0 9), .int (σ.1 0 10), .int (σ.1 0 11), .int (σ.1 0 12), .int (σ.1 0 13), .int (σ.1 0 14), .ref (d.2.1 8), .ref (d.2.1 9), .ref (d.2.1 10), .ref (d.2.1 11), .ref (d.2.1 12), .int (σ.1 0 20), .int (σ.1 0 21), .int (σ.1 0 22), .int (σ.1 0 23), .int (σ.1 0 24), .ref (d.2.1 13), .ref (d.2.1 14), .ref (d.2.1 15), .ref (d.2.1 16), .ref (d.2.1 17), .ref (d.2.1 18), .ref (d.2.1 19), .int (jb (σ.1 0 32)), .int (σ.1 0 33), .int (σ.1 0 34), .int (σ.1 0 35), .int (σ.1 0 36), .ref (d.2.1 20), .ref (d.2.1 21), .ref (d.2.1 22), .ref (d.2.1 23), .ref (d.2.1 24), .int (σ.1 0 42), .ref (d.2.1 25), .ref (d.2.1 26), .int (σ.1 0 45), .ref (d.2.1 27), .ref (d.2.1 28), .int (jb (σ.1 0 48)), .int (σ.1 0 49), .ref (d.2.1 29), .int (σ.1 0 51), .ref (d.2.1 30), .ref (d.2.1 31), .ref (d.2.1 32), .ref (d.2.1 33), .ref (d.2.1 34)])) := rfl
theorem M_sf_0_0 (d : jD) (σ : jS) (x : Int32) : (wM d σ).set 0 (d.2.1 0, .inr (12, [.int x, .ref (d.2.1 1), .int (σ.1 0 2), .ref (d.2.1 2), .ref (d.2.1 3), .ref (d.2.1 4), .ref (d.2.1 5), .ref (d.2.1 6), .ref (d.2.1 7), .int (σ.1 0 9), .int (σ.1 0 10), .int (σ.1 0 11), .int (σ.1 0 12), .int (σ.1 0 13), .int (σ.1 0 14), .ref (d.2.1 8), .ref (d.2.1 9), .ref (d.2.1 10), .ref (d.2.1 11), .ref (d.2.1 12), .int (σ.1 0 20), .int (σ.1 0 21), .int (σ.1 0 22), .int (σ.1 0 23), .int (σ.1 0 24), .ref (d.2.1 13), .ref (d.2.1 14), .ref (d.2.1 15), .ref (d.2.1 16), .ref (d.2.1 17), .ref (d.2.1 18), .ref (d.2.1 19), .int (jb (σ.1 0 32)), .int (σ.1 0 33), .int (σ.1 0 34), .int (σ.1 0 35), .int (σ.1 0 36), .ref (d.2.1 20), .ref (d.2.1 21), .ref (d.2.1 22), .ref (d.2.1 23), .ref (d.2.1 24), .int (σ.1 0 42), .ref (d.2.1 25), .ref (d.2.1 26), .int (σ.1 0 45), .ref (d.2.1 27), .ref (d.2.1 28), .int (jb (σ.1 0 48)), .int (σ.1 0 49), .ref (d.2.1 29), .int (σ.1 0 51), .ref (d.2.1 30), .ref (d.2.1 31), .ref (d.2.1 32), .ref (d.2.1 33), .ref (d.2.1 34)])) = wM d (ju σ 0 0 x) := rfl
theorem M_sf_0_2 (d : jD) (σ : jS) (x : Int32) : (wM d σ).set 0 (d.2.1 0, .inr (12, [.int (σ.1 0 0), .ref (d.2.1 1), .int x, .ref (d.2.1 2), .ref (d.2.1 3), .ref (d.2.1 4), .ref (d.2.1 5), .ref (d.2.1 6), .ref (d.2.1 7), .int (σ.1 0 9), .int (σ.1 0 10), .int (σ.1 0 11), .int (σ.1 0 12), .int (σ.1 0 13), .int (σ.1 0 14), .ref (d.2.1 8), .ref (d.2.1 9), .ref (d.2.1 10), .ref (d.2.1 11), .ref (d.2.1 12), .int (σ.1 0 20), .int (σ.1 0 21), .int (σ.1 0 22), .int (σ.1 0 23), .int (σ.1 0 24), .ref (d.2.1 13), .ref (d.2.1 14), .ref (d.2.1 15), .ref (d.2.1 16), .ref (d.2.1 17), .ref (d.2.1 18), .ref (d.2.1 19), .int (jb (σ.1 0 32)), .int (σ.1 0 33), .int (σ.1 0 34), .int (σ.1 0 35), .int (σ.1 0 36), .ref (d.2.1 20), .ref (d.2.1 21), .ref (d.2.1 22), .ref (d.2.1 23), .ref (d.2.1 24), .int (σ.1 0 42), .ref (d.2.1 25), .ref (d.2.1 26), .int (σ.1 0 45), .ref (d.2.1 27), .ref (d.2.1 28), .int (jb (σ.1 0 48)), .int (σ.1 0 49), .ref (d.2.1 29), .int (σ.1 0 51), .ref (d.2.1 30), .ref (d.2.1 31), .ref (d.2.1 32), .ref (d.2.1 33), .ref (d.2.1 34)])) = wM d (ju σ 0 2 x) := rfl
theorem M_sf_0_9 (d : jD) (σ : jS) (x : Int32) : (wM d σ).set 0 (d.2.1 0, .inr (12, [.int (σ.1 0 0), .ref (d.2.1 1), .int (σ.1 0 2), .ref (d.2.1 2), .ref (d.2.1 3), .ref (d.2.1 4), .ref (d.2.1 5), .ref (d.2.1 6), .ref (d.2.1 7), .int x, .int (σ.1 0 10), .int (σ.1 0 11), .int (σ.1 0 12), .int (σ.1 0 13), .int (σ.1 0 14), .ref (d.2.1 8), .ref (d.2.1 9), .ref (d.2.1 10), .ref (d.2.1 11), .ref (d.2.1 12), .int (σ.1 0 20), .int (σ.1 0 21), .int (σ.1 0 22), .int (σ.1 0 23), .int (σ.1 0 24), .ref (d.2.1 13), .ref (d.2.1 14), .ref (d.2.1 15), .ref (d.2.1 16), .ref (d.2.1 17), .ref (d.2.1 18), .ref (d.2.1 19), .int (jb (σ.1 0 32)), .int (σ.1 0 33), .int (σ.1 0 34), .int (σ.1 0 35), .int (σ.1 0 36), .ref (d.2.1 20), .ref (d.2.1 21), .ref (d.2.1 22), .ref (d.2.1 23), .ref (d.2.1 24), .int (σ.1 0 42), .ref (d.2.1 25), .ref (d.2.1 26), .int (σ.1 0 45), .ref (d.2.1 27), .ref (d.2.1 28), .int (jb (σ.1 0 48)), .int (σ.1 0 49), .ref (d.2.1 29), .int (σ.1 0 51), .ref (d.2.1 30), .ref (d.2.1 31), .ref (d.2.1 32), .ref (d.2.1 33), .ref (d.2.1 34)])) = wM d (ju σ 0 9 x) := rfl
theorem M_sf_0_10 (d : jD) (σ : jS) (x : Int32) : (wM d σ).set 0 (d.2.1 0, .inr (12, [.int (σ.1 0 0), .ref (d.2.1 1), .int (σ.1 0 2), .ref (d.2.1 2), .ref (d.2.1 3), .ref (d.2.1 4), .ref (d.2.1 5), .ref (d.2.1 6), .ref (d.2.1 7), .int (σ.1 0 9), .int x, .int (σ.1 0 11), .int (σ.1 0 12), .int (σ.1 0 13), .int (σ.1 0 14), .ref (d.2.1 8), .ref (d.2.1 9), .ref (d.2.1 10), .ref (d.2.1 11), .ref (d.2.1 12), .int (σ.1 0 20), .int (σ.1 0 21), .int (σ.1 0 22), .int (σ.1 0 23), .int (σ.1 0 24), .ref (d.2.1 13), .ref (d.2.1 14), .ref (d.2.1 15), .ref (d.2.1 16), .ref (d.2.1 17), .ref (d.2.1 18), .ref (d.2.1 19), .int (jb (σ.1 0 32)), .int (σ.1 0 33), .int (σ.1 0 34), .int (σ.1 0 35), .int (σ.1 0 36), .ref (d.2.1 20), .ref (d.2.1 21), .ref (d.2.1 22), .ref (d.2.1 23), .ref (d.2.1 24), .int (σ.1 0 42), .ref (d.2.1 25), .ref (d.2.1 26), .int (σ.1 0 45), .ref (d.2.1 27), .ref (d.2.1 28), .int (jb (σ.1 0 48)), .int (σ.1 0 49), .ref (d.2.1 29), .int (σ.1 0 51), .ref (d.2.1 30), .ref (d.2.1 31), .ref (d.2.1 32), .ref (d.2.1 33), .ref (d.2.1 34)])) = wM d (ju σ 0 10 x) := rfl
theorem M_sf_0_11 (d : jD) (σ : jS) (x : Int32) : (wM d σ).set 0 (d.2.1 0, .inr (12, [.int (σ.1 0 0), .ref (d.2.1 1), .int (σ.1 0 2), .ref (d.2.1 2), .ref (d.2.1 3), .ref (d.2.1 4), .ref (d.2.1 5), .ref (d.2.1 6), .ref (d.2.1 7), .int (σ.1 0 9), .int (σ.1 0 10), .int x, .int (σ.1 0 12), .int (σ.1 0 13), .int (σ.1 0 14), .ref (d.2.1 8), .ref (d.2.1 9), .ref (d.2.1 10), .ref (d.2.1 11), .ref (d.2.1 12), .int (σ.1 0 20), .int (σ.1 0 21), .int (σ.1 0 22), .int (σ.1 0 23), .int (σ.1 0 24), .ref (d.2.1 13), .ref (d.2.1 14), .ref (d.2.1 15), .ref (d.2.1 16), .ref (d.2.1 17), .ref (d.2.1 18), .ref (d.2.1 19), .int (jb (σ.1 0 32)), .int (σ.1 0 33), .int (σ.1 0 34), .int (σ.1 0 35), .int (σ.1 0 36), .ref (d.2.1 20), .ref (d.2.1 21), .ref (d.2.1 22), .ref (d.2.1 23), .ref (d.2.1 24), .int (σ.1 0 42), .ref (d.2.1 25), .ref (d.2.1 26), .int (σ.1 0 45), .ref (d.2.1 27), .ref (d.2.1 28), .int (jb (σ.1 0 48)), .int (σ.1 0 49), .ref (d.2.1 29), .int (σ.1 0 51), .ref (d.2.1 30), .ref (d.2.1 31), .ref (d.2.1 32), .ref (d.2.1 33), .ref (d.2.1 34)])) = wM d (ju σ 0 11 x) := rfl
theorem M_sf_0_12 (d : jD) (σ : jS) (x : Int32) : (wM d σ).set 0 (d.2.1 0, .inr (12, [.int (σ.1 0 0), .ref (d.2.1 1), .int (σ.1 0 2), .ref (d.2.1 2), .ref (d.2.1 3), .ref (d.2.1 4), .ref (d.2.1 5), .ref (d.2.1 6), .ref (d.2.1 7), .int (σ.1 0 9), .int (σ.1 0 10), .int (σ.1 0 11), .int x, .int (σ.1 0 13), .int (σ.1 0 14), .ref (d.2.1 8), .ref (d.2.1 9), .ref (d.2.1 10), .ref (d.2.1 11), .ref (d.2.1 12), .int (σ.1 0 20), .int (σ.1 0 21), .int (σ.1 0 22), .int (σ.1 0 23), .int (σ.1 0 24), .ref (d.2.1 13), .ref (d.2.1 14), .ref (d.2.1 15), .ref (d.2.1 16), .ref (d.2.1 17), .ref (d.2.1 18), .ref (d.2.1 19), .int (jb (σ.1 0 32)), .int (σ.1 0 33), .int (σ.1 0 34), .int (σ.1 0 35), .int (σ.1 0 36), .ref (d.2.1 20), .ref (d.2.1 21), .ref (d.2.1 22), .ref (d.2.1 23), .ref (d.2.1 24), .int (σ.1 0 42), .ref (d.2.1 25), .ref (d.2.1 26), .int (σ.1 0 45), .ref (d.2.1 27), .ref (d.2.1 28), .int (jb (σ.1 0 48)), .int (σ.1 0 49), .ref (d.2.1 29), .int (σ.1 0 51), .ref (d.2.1 30), .ref (d.2.1 31), .ref (d.2.1 32), .ref (d.2.1 33), .ref (d.2.1 34)])) = wM d (ju σ 0 12 x) := rfl
theorem M_sf_0_13 (d : jD) (σ : jS) (x : Int32) : (wM d σ).set 0 (d.2.1 0, .inr (12, [.int (σ.1 0 0), .ref (d.2.1 1), .int (σ.1 0 2), .ref (d.2.1 2), .ref (d.2.1 3), .ref (d.2.1 4), .ref (d.2.1 5), .ref (d.2.1 6), .ref (d.2.1 7), .int (σ.1 0 9), .int (σ.1 0 10), .int (σ.1 0 11), .int (σ.1 0 12), .int x, .int (σ.1 0 14), .ref (d.2.1 8), .ref (d.2.1 9), .ref (d.2.1 10), .ref (d.2.1 11), .ref (d.2.1 12), .int (σ.1 0 20), .int (σ.1 0 21), .int (σ.1 0 22), .int (σ.1 0 23), .int (σ.1 0 24), .ref (d.2.1 13), .ref (d.2.1 14), .ref (d.2.1 15), .ref (d.2.1 16), .ref (d.2.1 17), .ref (d.2.1 18), .ref (d.2.1 19), .int (jb (σ.1 0 32)), .int (σ.1 0 33), .int (σ.1 0 34), .int (σ.1 0 35), .int (σ.1 0 36), .ref (d.2.1 20), .ref (d.2.1 21), .ref (d.2.1 22), .ref (d.2.1 23), .ref (d.2.1 24), .int (σ.1 0 42), .ref (d.2.1 25), .ref (d.2.1 26), .int (σ.1 0 45), .ref (d.2.1 27), .ref (d.2.1 28), .int (jb (σ.1 0 48)), .int (σ.1 0 49), .ref (d.2.1 29), .int (σ.1 0 51), .ref (d.2.1 30), .ref (d.2.1 31), .ref (d.2.1 32), .ref (d.2.1 33), .ref (d.2.1 34)])) = wM d (ju σ 0 13 x) := rfl
theorem M_sf_0_14 (d : jD) (σ : jS) (x : Int32) : (wM d σ).set 0 (d.2.1 0, .inr (12, [.int (σ.1 0 0), .ref (d.2.1 1), .int (σ.1 0 2), .ref (d.2.1 2), .ref (d.2.1 3), .ref (d.2.1 4), .ref (d.2.1 5), .ref (d.2.1 6), .ref (d.2.1 7), .int (σ.1 0 9), .int (σ.1 0 10), .int (σ.1 0 11), .int (σ.1 0 12), .int (σ.1 0 13), .int x, .ref (d.2.1 8), .ref (d.2.1 9), .ref (d.2.1 10), .ref (d.2.1 11), .ref (d.2.1 12), .int (σ.1 0 20), .int (σ.1 0 21), .int (σ.1 0 22), .int (σ.1 0 23), .int (σ.1 0 24), .ref (d.2.1 13), .ref (d.2.1 14), .ref (d.2.1 15), .ref (d.2.1 16), .ref (d.2.1 17), .ref (d.2.1 18), .ref (d.2.1 19), .int (jb (σ.1 0 32)), .int (σ.1 0 33), .int (σ.1 0 34), .int (σ.1 0 35), .int (σ.1 0 36), .ref (d.2.1 20), .ref (d.2.1 21), .ref (d.2.1 22), .ref (d.2.1 23), .ref (d.2.1 24), .int (σ.1 0 42), .ref (d.2.1 25), .ref (d.2.1 26), .int (σ.1 0 45), .ref (d.2.1 27), .ref (d.2.1 28), .int (jb (σ.1 0 48)), .int (σ.1 0 49), .ref (d.2.1 29), .int (σ.1 0 51), .ref (d.2.1 30), .ref (d.2.1 31), .ref (d.2.1 32), .ref (d.2.1 33), .ref (d.2.1 34)])) = wM d (ju σ 0 14 x) := rfl
theorem M_sf_0_20 (d : jD) (σ : jS) (x : Int32) : (wM d σ).set 0 (d.2.1 0, .inr (12, [.int (σ.1 0 0), .ref (d.2.1 1), .int (σ.1 0 2), .ref (d.2.1 2), .ref (d.2.1 3), .ref (d.2.1 4), .ref (d.2.1 5), .ref (d.2.1 6), .ref (d.2.1 7), .int (σ.1 0 9), .int (σ.1 0 10), .int (σ.1 0 11), .int (σ.1 0 12), .int (σ.1 0 13), .int (σ.1 0 14), .ref (d.2.1 8), .ref (d.2.1 9), .ref (d.2.1 10), .ref (d.2.1 11), .ref (d.2.1 12), .int x, .int (σ.1 0 21), .int (σ.1 0 22), .int (σ.1 0 23), .int (σ.1 0 24), .ref (d.2.1 13), .ref (d.2.1 14), .ref (d.2.1 15), .ref (d.2.1 16), .ref (d.2.1 17), .ref (d.2.1 18), .ref (d.2.1 19), .int (jb (σ.1 0 32)), .int (σ.1 0 33), .int (σ.1 0 34), .int (σ.1 0 35), .int (σ.1 0 36), .ref (d.2.1 20), .ref (d.2.1 21), .ref (d.2.1 22), .ref (d.2.1 23), .ref (d.2.1 24), .int (σ.1 0 42), .ref (d.2.1 25), .ref (d.2.1 26), .int (σ.1 0 45), .ref (d.2.1 27), .ref (d.2.1 28), .int (jb (σ.1 0 48)), .int (σ.1 0 49), .ref (d.2.1 29), .int (σ.1 0 51), .ref (d.2.1 30), .ref (d.2.1 31), .ref (d.2.1 32), .ref (d.2.1 33), .ref (d.2.1 34)])) = wM d (ju σ 0 20 x) := rfl
theorem M_sf_0_21 (d : jD) (σ : jS) (x : Int32) : (wM d σ).set 0 (d.2.1 0, .inr (12, [.int (σ.1 0 0), .ref (d.2.1 1), .int (σ.1 0 2), .ref (d.2.1 2), .ref (d.2.1 3), .ref (d.2.1 4), .ref (d.2.1 5), .ref (d.2.1 6), .ref (d.2.1 7), .int (σ.1 0 9), .int (σ.1 0 10), .int (σ.1 0 11), .int (σ.1 0 12), .int (σ.1 0 13), .int (σ.1 0 14), .ref (d.2.1 8), .ref (d.2.1 9), .ref (d.2.1 10), .ref (d.2.1 11), .ref (d.2.1 12), .int (σ.1 0 20), .int x, .int (σ.1 0 22), .int (σ.1 0 23), .int (σ.1 0 24), .ref (d.2.1 13), .ref (d.2.1 14), .ref (d.2.1 15), .ref (d.2.1 16), .ref (d.2.1 17), .ref (d.2.1 18), .ref (d.2.1 19), .int (jb (σ.1 0 32)), .int (σ.1 0 33), .int (σ.1 0 34), .int (σ.1 0 35), .int (σ.1 0 36), .ref (d.2.1 20), .ref (d.2.1 21), .ref (d.2.1 22), .ref (d.2.1 23), .ref (d.2.1 24), .int (σ.1 0 42), .ref (d.2.1 25), .ref (d.2.1 26), .int (σ.1 0 45), .ref (d.2.1 27), .ref (d.2.1 28), .int (jb (σ.1 0 48)), .int (σ.1 0 49), .ref (d.2.1 29), .int (σ.1 0 51), .ref (d.2.1 30), .ref (d.2.1 31), .ref (d.2.1 32), .ref (d.2.1 33), .ref (d.2.1 34)])) = wM d (ju σ 0 21 x) := rfl
theorem M_sf_0_22 (d : jD) (σ : jS) (x : Int32) : (wM d σ).set 0 (d.2.1 0, .inr (12, [.int (σ.1 0 0), .ref (d.2.1 1), .int (σ.1 0 2), .ref (d.2.1 2), .ref (d.2.1 3), .ref (d.2.1 4), .ref (d.2.1 5), .ref (d.2.1 6), .ref (d.2.1 7), .int (σ.1 0 9), .int (σ.1 0 10), .int (σ.1 0 11), .int (σ.1 0 12), .int (σ.1 0 13), .int (σ.1 0 14), .ref (d.2.1 8), .ref (d.2.1 9), .ref (d.2.1 10), .ref (d.2.1 11), .ref (d.2.1 12), .int (σ.1 0 20), .int (σ.1 0 21), .int x, .int (σ.1 0 23), .int (σ.1 0 24), .ref (d.2.1 13), .ref (d.2.1 14), .ref (d.2.1 15), .ref (d.2.1 16), .ref (d.2.1 17), .ref (d.2.1 18), .ref (d.2.1 19), .int (jb (σ.1 0 32)), .int (σ.1 0 33), .int (σ.1 0 34), .int (σ.1 0 35), .int (σ.1 0 36), .ref (d.2.1 20), .ref (d.2.1 21), .ref (d.2.1 22), .ref (d.2.1 23), .ref (d.2.1 24), .int (σ.1 0 42), .ref (d.2.1 25), .ref (d.2.1 26), .int (σ.1 0 45), .ref (d.2.1 27), .ref (d.2.1 28), .int (jb (σ.1 0 48)), .int (σ.1 0 49), .ref (d.2.1 29), .int (σ.1 0 51), .ref (d.2.1 30), .ref (d.2.1 31), .ref (d.2.1 32), .ref (d.2.1 33), .ref (d.2.1 34)])) = wM d (ju σ 0 22 x) := rfl
theorem M_sf_0_23 (d : jD) (σ : jS) (x : Int32) : (wM d σ).set 0 (d.2.1 0, .inr (12, [.int (σ.1 0 0), .ref (d.2.1 1), .int (σ.1 0 2), .ref (d.2.1 2), .ref (d.2.1 3), .ref (d.2.1 4), .ref (d.2.1 5), .ref (d.2.1 6), .ref (d.2.1 7), .int (σ.1 0 9), .int (σ.1 0 10), .int (σ.1 0 11), .int (σ.1 0 12), .int (σ.1 0 13), .int (σ.1 0 14), .ref (d.2.1 8), .ref (d.2.1 9), .ref (d.2.1 10), .ref (d.2.1 11), .ref (d.2.1 12), .int (σ.1 0 20), .int (σ.1 0 21), .int (σ.1 0 22), .int x, .int (σ.1 0 24), .ref (d.2.1 13), .ref (d.2.1 14), .ref (d.2.1 15), .ref (d.2.1 16), .ref (d.2.1 17), .ref (d.2.1 18), .ref (d.2.1 19), .int (jb (σ.1 0 32)), .int (σ.1 0 33), .int (σ.1 0 34), .int (σ.1 0 35), .int (σ.1 0 36), .ref (d.2.1 20), .ref (d.2.1 21), .ref (d.2.1 22), .ref (d.2.1 23), .ref (d.2.1 24), .int (σ.1 0 42), .ref (d.2.1 25), .ref (d.2.1 26), .int (σ.1 0 45), .ref (d.2.1 27), .ref (d.2.1 28), .int (jb (σ.1 0 48)), .int (σ.1 0 49), .ref (d.2.1 29), .int (σ.1 0 51), .ref (d.2.1 30), .ref (d.2.1 31), .ref (d.2.1 32), .ref (d.2.1 33), .ref (d.2.1 34)])) = wM d (ju σ 0 23 x) := rfl
theorem M_sf_0_24 (d : jD) (σ : jS) (x : Int32) : (wM d σ).set 0 (d.2.1 0, .inr (12, [.int (σ.1 0 0), .ref (d.2.1 1), .int (σ.1 0 2), .ref (d.2.1 2), .ref (d.2.1 3), .ref (d.2.1 4), .ref (d.2.1 5), .ref (d.2.1 6), .ref (d.2.1 7), .int (σ.1 0 9), .int (σ.1 0 10), .int (σ.1 0 11), .int (σ.1 0 12), .int (σ.1 0 13), .int (σ.1 0 14), .ref (d.2.1 8), .ref (d.2.1 9), .ref (d.2.1 10), .ref (d.2.1 11), .ref (d.2.1 12), .int (σ.1 0 20), .int (σ.1 0 21), .int (σ.1 0 22), .int (σ.1 0 23), .int x, .ref (d.2.1 13), .ref (d.2.1 14), .ref (d.2.1 15), .ref (d.2.1 16), .ref (d.2.1 17), .ref (d.2.1 18), .ref (d.2.1 19), .int (jb (σ.1 0 32)), .int (σ.1 0 33), .int (σ.1 0 34), .int (σ.1 0 35), .int (σ.1 0 36), .ref (d.2.1 20), .ref (d.2.1 21), .ref (d.2.1 22), .ref (d.2.1 23), .ref (d.2.1 24), .int (σ.1 0 42), .ref (d.2.1 25), .ref (d.2.1 26), .int (σ.1 0 45), .ref (d.2.1 27), .ref (d.2.1 28), .int (jb (σ.1 0 48)), .int (σ.1 0 49), .ref (d.2.1 29), .int (σ.1 0 51), .ref (d.2.1 30), .ref (d.2.1 31), .ref (d.2.1 32), .ref (d.2.1 33), .ref (d.2.1 34)])) = wM d (ju σ 0 24 x) := rfl
theorem M_sf_0_32 (d : jD) (σ : jS) (x : Int32) : (wM d σ).set 0 (d.2.1 0, .inr (12, [.int (σ.1 0 0), .ref (d.2.1 1), .int (σ.1 0 2), .ref (d.2.1 2), .ref (d.2.1 3), .ref (d.2.1 4), .ref (d.2.1 5), .ref (d.2.1 6), .ref (d.2.1 7), .int (σ.1 0 9), .int (σ.1 0 10), .int (σ.1 0 11), .int (σ.1 0 12), .int (σ.1 0 13), .int (σ.1 0 14), .ref (d.2.1 8), .ref (d.2.1 9), .ref (d.2.1 10), .ref (d.2.1 11), .ref (d.2.1 12), .int (σ.1 0 20), .int (σ.1 0 21), .int (σ.1 0 22), .int (σ.1 0 23), .int (σ.1 0 24), .ref (d.2.1 13), .ref (d.2.1 14), .ref (d.2.1 15), .ref (d.2.1 16), .ref (d.2.1 17), .ref (d.2.1 18), .ref (d.2.1 19), .int (jb x), .int (σ.1 0 33), .int (σ.1 0 34), .int (σ.1 0 35), .int (σ.1 0 36), .ref (d.2.1 20), .ref (d.2.1 21), .ref (d.2.1 22), .ref (d.2.1 23), .ref (d.2.1 24), .int (σ.1 0 42), .ref (d.2.1 25), .ref (d.2.1 26), .int (σ.1 0 45), .ref (d.2.1 27), .ref (d.2.1 28), .int (jb (σ.1 0 48)), .int (σ.1 0 49), .ref (d.2.1 29), .int (σ.1 0 51), .ref (d.2.1 30), .ref (d.2.1 31), .ref (d.2.1 32), .ref (d.2.1 33), .ref (d.2.1 34)])) = wM d (ju σ 0 32 x) := rfl
theorem M_sf_0_33 (d : jD) (σ : jS) (x : Int32) : (wM d σ).set 0 (d.2.1 0, .inr (12, [.int (σ.1 0 0), .ref (d.2.1 1), .int (σ.1 0 2), .ref (d.2.1 2), .ref (d.2.1 3), .ref (d.2.1 4), .ref (d.2.1 5), .ref (d.2.1 6), .ref (d.2.1 7), .int (σ.1 0 9), .int (σ.1 0 10), .int (σ.1 0 11), .int (σ.1 0 12), .int (σ.1 0 13), .int (σ.1 0 14), .ref (d.2.1 8), .ref (d.2.1 9), .ref (d.2.1 10), .ref (d.2.1 11), .ref (d.2.1 12), .int (σ.1 0 20), .int (σ.1 0 21), .int (σ.1 0 22), .int (σ.1 0 23), .int (σ.1 0 24), .ref (d.2.1 13), .ref (d.2.1 14), .ref (d.2.1 15), .ref (d.2.1 16), .ref (d.2.1 17), .ref (d.2.1 18), .ref (d.2.1 19), .int (jb (σ.1 0 32)), .int x, .int (σ.1 0 34), .int (σ.1 0 35), .int (σ.1 0 36), .ref (d.2.1 20), .ref (d.2.1 21), .ref (d.2.1 22), .ref (d.2.1 23), .ref (d.2.1 24), .int (σ.1 0 42), .ref (d.2.1 25), .ref (d.2.1 26), .int (σ.1 0 45), .ref (d.2.1 27), .ref (d.2.1 28), .int (jb (σ.1 0 48)), .int (σ.1 0 49), .ref (d.2.1 29), .int (σ.1 0 51), .ref (d.2.1 30), .ref (d.2.1 31), .ref (d.2.1 32), .ref (d.2.1 33), .ref (d.2.1 34)])) = wM d (ju σ 0 33 x) := rfl
theorem M_sf_0_34 (d : jD) (σ : jS) (x : Int32) : (wM d σ).set 0 (d.2.1 0, .inr (12, [.int (σ.1 0 0), .ref (d.2.1 1), .int (σ.1 0 2), .ref (d.2.1 2), .ref (d.2.1 3), .ref (d.2.1 4), .ref (d.2.1 5), .ref (d.2.1 6), .ref (d.2.1 7), .int (σ.1 0 9), .int (σ.1 0 10), .int (σ.1 0 11), .int (σ.1 0 12), .int (σ.1 0 13), .int (σ.1 0 14), .ref (d.2.1 8), .ref (d.2.1 9), .ref (d.2.1 10), .ref (d.2.1 11), .ref (d.2.1 12), .int (σ.1 0 20), .int (σ.1 0 21), .int (σ.1 0 22), .int (σ.1 0 23), .int (σ.1 0 24), .ref (d.2.1 13), .ref (d.2.1 14), .ref (d.2.1 15), .ref (d.2.1 16), .ref (d.2.1 17), .ref (d.2.1 18), .ref (d.2.1 19), .int (jb (σ.1 0 32)), .int (σ.1 0 33), .int x, .int (σ.1 0 35), .int (σ.1 0 36), .ref (d.2.1 20), .ref (d.2.1 21), .ref (d.2.1 22), .ref (d.2.1 23), .ref (d.2.1 24), .int (σ.1 0 42), .ref (d.2.1 25), .ref (d.2.1 26), .int (σ.1 0 45), .ref (d.2.1 27), .ref (d.2.1 28), .int (jb (σ.1 0 48)), .int (σ.1 0 49), .ref (d.2.1 29), .int (σ.1 0 51), .ref (d.2.1 30), .ref (d.2.1 31), .ref (d.2.1 32), .ref (d.2.1 33), .ref (d.2.1 34)])) = wM d (ju σ 0 34 x) := rfl
theorem M_sf_0_35 (d : jD) (σ : jS) (x : Int32) : (wM d σ).set 0 (d.2.1 0, .inr (12, [.int (σ.1 0 0), .ref (d.2.1 1), .int (σ.1 0 2), .ref (d.2.1 2), .ref (d.2.1 3), .ref (d.2.1 4), .ref (d.2.1 5), .ref (d.2.1 6), .ref (d.2.1 7), .int (σ.1 0 9), .int (σ.1 0 10), .int (σ.1 0 11), .int (σ.1 0 12), .int (σ.1 0 13), .int (σ.1 0 14), .ref (d.2.1 8), .ref (d.2.1 9), .ref (d.2.1 10), .ref (d.2.1 11), .ref (d.2.1 12), .int (σ.1 0 20), .int (σ.1 0 21), .int (σ.1 0 22), .int (σ.1 0 23), .int (σ.1 0 24), .ref (d.2.1 13), .ref (d.2.1 14), .ref (d.2.1 15), .ref (d.2.1 16), .ref (d.2.1 17), .ref (d.2.1 18), .ref (d.2.1 19), .int (jb (σ.1 0 32)), .int (σ.1 0 33), .int (σ.1 0 34), .int x, .int (σ.1 0 36), .ref (d.2.1 20), .ref (d.2.1 21), .ref (d.2.1 22), .ref (d.2.1 23), .ref (d.2.1 24), .int (σ.1 0 42), .ref (d.2.1 25), .ref (d.2.1 26), .int (σ.1 0 45), .ref (d.2.1 27), .ref (d.2.1 28), .int (jb (σ.1 0 48)), .int (σ.1 0 49), .ref (d.2.1 29), .int (σ.1 0 51), .ref (d.2.1 30), .ref (d.2.1 31), .ref (d.2.1 32), .ref (d.2.1 33), .ref (d.2.1 34)])) = wM d (ju σ 0 35 x) := rfl
theorem M_sf_0_36 (d : jD) (σ : jS) (x : Int32) : (wM d σ).set 0 (d.2.1 0, .inr (12, [.int (σ.1 0 0), .ref (d.2.1 1), .int (σ.1 0 2), .ref (d.2.1 2), .ref (d.2.1 3), .ref (d.2.1 4), .ref (d.2.1 5), .ref (d.2.1 6), .ref (d.2.1 7), .int (σ.1 0 9), .int (σ.1 0 10), .int (σ.1 0 11), .int (σ.1 0 12), .int (σ.1 0 13), .int (σ.1 0 14), .ref (d.2.1 8), .ref (d.2.1 9), .ref (d.2.1 10), .ref (d.2.1 11), .ref (d.2.1 12), .int (σ.1 0 20), .int (σ.1 0 21), .int (σ.1 0 22), .int (σ.1 0 23), .int (σ.1 0 24), .ref (d.2.1 13), .ref (d.2.1 14), .ref (d.2.1 15), .ref (d.2.1 16), .ref (d.2.1 17), .ref (d.2.1 18), .ref (d.2.1 19), .int (jb (σ.1 0 32)), .int (σ.1 0 33), .int (σ.1 0 34), .int (σ.1 0 35), .int x, .ref (d.2.1 20), .ref (d.2.1 21), .ref (d.2.1 22), .ref (d.2.1 23), .ref (d.2.1 24), .int (σ.1 0 42), .ref (d.2.1 25), .ref (d.2.1 26), .int (σ.1 0 45), .ref (d.2.1 27), .ref (d.2.1 28), .int (jb (σ.1 0 48)), .int (σ.1 0 49), .ref (d.2.1 29), .int (σ.1 0 51), .ref (d.2.1 30), .ref (d.2.1 31), .ref (d.2.1 32), .ref (d.2.1 33), .ref (d.2.1 34)])) = wM d (ju σ 0 36 x) := rfl
theorem M_sf_0_42 (d : jD) (σ : jS) (x : Int32) : (wM d σ).set 0 (d.2.1 0, .inr (12, [.int (σ.1 0 0), .ref (d.2.1 1), .int (σ.1 0 2), .ref (d.2.1 2), .ref (d.2.1 3), .ref (d.2.1 4), .ref (d.2.1 5), .ref (d.2.1 6), .ref (d.2.1 7), .int (σ.1 0 9), .int (σ.1 0 10), .int (σ.1 0 11), .int (σ.1 0 12), .int (σ.1 0 13), .int (σ.1 0 14), .ref (d.2.1 8), .ref (d.2.1 9), .ref (d.2.1 10), .ref (d.2.1 11), .ref (d.2.1 12), .int (σ.1 0 20), .int (σ.1 0 21), .int (σ.1 0 22), .int (σ.1 0 23), .int (σ.1 0 24), .ref (d.2.1 13), .ref (d.2.1 14), .ref (d.2.1 15), .ref (d.2.1 16), .ref (d.2.1 17), .ref (d.2.1 18), .ref (d.2.1 19), .int (jb (σ.1 0 32)), .int (σ.1 0 33), .int (σ.1 0 34), .int (σ.1 0 35), .int (σ.1 0 36), .ref (d.2.1 20), .ref (d.2.1 21), .ref (d.2.1 22), .ref (d.2.1 23), .ref (d.2.1 24), .int x, .ref (d.2.1 25), .ref (d.2.1 26), .int (σ.1 0 45), .ref (d.2.1 27), .ref (d.2.1 28), .int (jb (σ.1 0 48)), .int (σ.1 0 49), .ref (d.2.1 29), .int (σ.1 0 51), .ref (d.2.1 30), .ref (d.2.1 31), .ref (d.2.1 32), .ref (d.2.1 33), .ref (d.2.1 34)])) = wM d (ju σ 0 42 x) := rfl
theorem M_sf_0_45 (d : jD) (σ : jS) (x : Int32) : (wM d σ).set 0 (d.2.1 0, .inr (12, [.int (σ.1 0 0), .ref (d.2.1 1), .int (σ.1 0 2), .ref (d.2.1 2), .ref (d.2.1 3), .ref (d.2.1 4), .ref (d.2.1 5), .ref (d.2.1 6), .ref (d.2.1 7), .int (σ.1 0 9), .int (σ.1 0 10), .int (σ.1 0 11), .int (σ.1 0 12), .int (σ.1 0 13), .int (σ.1 0 14), .ref (d.2.1 8), .ref (d.2.1 9), .ref (d.2.1 10), .ref (d.2.1 11), .ref (d.2.1 12), .int (σ.1 0 20), .int (σ.1 0 21), .int (σ.1 0 22), .int (σ.1 0 23), .int (σ.1 0 24), .ref (d.2.1 13), .ref (d.2.1 14), .ref (d.2.1 15), .ref (d.2.1 16), .ref (d.2.1 17), .ref (d.2.1 18), .ref (d.2.1 19), .int (jb (σ.1 0 32)), .int (σ.1 0 33), .int (σ.1 0 34), .int (σ.1 0 35), .int (σ.1 0 36), .ref (d.2.1 20), .ref (d.2.1 21), .ref (d.2.1 22), .ref (d.2.1 23), .ref (d.2.1 24), .int (σ.1 0 42), .ref (d.2.1 25), .ref (d.2.1 26), .int x, .ref (d.2.1 27), .ref (d.2.1 28), .int (jb (σ.1 0 48)), .int (σ.1 0 49), .ref (d.2.1 29), .int (σ.1 0 51), .ref (d.2.1 30), .ref (d.2.1 31), .ref (d.2.1 32), .ref (d.2.1 33), .ref (d.2.1 34)])) = wM d (ju σ 0 45 x) := rfl
theorem M_sf_0_48 (d : jD) (σ : jS) (x : Int32) : (wM d σ).set 0 (d.2.1 0, .inr (12, [.int (σ.1 0 0), .ref (d.2.1 1), .int (σ.1 0 2), .ref (d.2.1 2), .ref (d.2.1 3), .ref (d.2.1 4), .ref (d.2.1 5), .ref (d.2.1 6), .ref (d.2.1 7), .int (σ.1 0 9), .int (σ.1 0 10), .int (σ.1 0 11), .int (σ.1 0 12), .int (σ.1 0 13), .int (σ.1 0 14), .ref (d.2.1 8), .ref (d.2.1 9), .ref (d.2.1 10), .ref (d.2.1 11), .ref (d.2.1 12), .int (σ.1 0 20), .int (σ.1 0 21), .int (σ.1 0 22), .int (σ.1 0 23), .int (σ.1 0 24), .ref (d.2.1 13), .ref (d.2.1 14), .ref (d.2.1 15), .ref (d.2.1 16), .ref (d.2.1 17), .ref (d.2.1 18), .ref (d.2.1 19), .int (jb (σ.1 0 32)), .int (σ.1 0 33), .int (σ.1 0 34), .int (σ.1 0 35), .int (σ.1 0 36), .ref (d.2.1 20), .ref (d.2.1 21), .ref (d.2.1 22), .ref (d.2.1 23), .ref (d.2.1 24), .int (σ.1 0 42), .ref (d.2.1 25), .ref (d.2.1 26), .int (σ.1 0 45), .ref (d.2.1 27), .ref (d.2.1 28), .int (jb x), .int (σ.1 0 49), .ref (d.2.1 29), .int (σ.1 0 51), .ref (d.2.1 30), .ref (d.2.1 31), .ref (d.2.1 32), .ref (d.2.1 33), .ref (d.2.1 34)])) = wM d (ju σ 0 48 x) := rfl
theorem M_sf_0_49 (d : jD) (σ : jS) (x : Int32) : (wM d σ).set 0 (d.2.1 0, .inr (12, [.int (σ.1 0 0), .ref (d.2.1 1), .int (σ.1 0 2), .ref (d.2.1 2), .ref (d.2.1 3), .ref (d.2.1 4), .ref (d.2.1 5), .ref (d.2.1 6), .ref (d.2.1 7), .int (σ.1 0 9), .int (σ.1 0 10), .int (σ.1 0 11), .int (σ.1 0 12), .int (σ.1 0 13), .int (σ.1 0 14), .ref (d.2.1 8), .ref (d.2.1 9), .ref (d.2.1 10), .ref (d.2.1 11), .ref (d.2.1 12), .int (σ.1 0 20), .int (σ.1 0 21), .int (σ.1 0 22), .int (σ.1 0 23), .int (σ.1 0 24), .ref (d.2.1 13), .ref (d.2.1 14), .ref (d.2.1 15), .ref (d.2.1 16), .ref (d.2.1 17), .ref (d.2.1 18), .ref (d.2.1 19), .int (jb (σ.1 0 32)), .int (σ.1 0 33), .int (σ.1 0 34), .int (σ.1 0 35), .int (σ.1 0 36), .ref (d.2.1 20), .ref (d.2.1 21), .ref (d.2.1 22), .ref (d.2.1 23), .ref (d.2.1 24), .int (σ.1 0 42), .ref (d.2.1 25), .ref (d.2.1 26), .int (σ.1 0 45), .ref (d.2.1 27), .ref (d.2.1 28), .int (jb (σ.1 0 48)), .int x, .ref (d.2.1 29), .int (σ.1 0 51), .ref (d.2.1 30), .ref (d.2.1 31), .ref (d.2.1 32), .ref (d.2.1 33), .ref (d.2.1 34)])) = wM d (ju σ 0 49 x) := rfl
theorem M_sf_0_51 (d : jD) (σ : jS) (x : Int32) : (wM d σ).set 0 (d.2.1 0, .inr (12, [.int (σ.1 0 0), .ref (d.2.1 1), .int (σ.1 0 2), .ref (d.2.1 2), .ref (d.2.1 3), .ref (d.2.1 4), .ref (d.2.1 5), .ref (d.2.1 6), .ref (d.2.1 7), .int (σ.1 0 9), .int (σ.1 0 10), .int (σ.1 0 11), .int (σ.1 0 12), .int (σ.1 0 13), .int (σ.1 0 14), .ref (d.2.1 8), .ref (d.2.1 9), .ref (d.2.1 10), .ref (d.2.1 11), .ref (d.2.1 12), .int (σ.1 0 20), .int (σ.1 0 21), .int (σ.1 0 22), .int (σ.1 0 23), .int (σ.1 0 24), .ref (d.2.1 13), .ref (d.2.1 14), .ref (d.2.1 15), .ref (d.2.1 16), .ref (d.2.1 17), .ref (d.2.1 18), .ref (d.2.1 19), .int (jb (σ.1 0 32)), .int (σ.1 0 33), .int (σ.1 0 34), .int (σ.1 0 35), .int (σ.1 0 36), .ref (d.2.1 20), .ref (d.2.1 21), .ref (d.2.1 22), .ref (d.2.1 23), .ref (d.2.1 24), .int (σ.1 0 42), .ref (d.2.1 25), .ref (d.2.1 26), .int (σ.1 0 45), .ref (d.2.1 27), .ref (d.2.1 28), .int (jb (σ.1 0 48)), .int (σ.1 0 49), .ref (d.2.1 29), .int x, .ref (d.2.1 30), .ref (d.2.1 31), .ref (d.2.1 32), .ref (d.2.1 33), .ref (d.2.1 34)])) = wM d (ju σ 0 51 x) := rfl
theorem M_at_1 (d : jD) (σ : jS) : (wM d σ)[1]? = some (d.2.1 1, .inl (d.2.2.1 0, 3, .inl (σ.1 1))) := rfl
theorem M_sa_1 (d : jD) (σ : jS) (f : Nat → Int32) : (wM d σ).set 1 (d.2.1 1, .inl (d.2.2.1 0, 3, .inl f)) = wM d (jc σ 1 f) := rfl
theorem M_at_2 (d : jD) (σ : jS) : (wM d σ)[2]? = some (d.2.1 2, .inl (d.2.2.1 0, 9, .inl (σ.1 2))) := rfl
theorem M_sa_2 (d : jD) (σ : jS) (f : Nat → Int32) : (wM d σ).set 2 (d.2.1 2, .inl (d.2.2.1 0, 9, .inl f)) = wM d (jc σ 2 f) := rfl
theorem M_at_3 (d : jD) (σ : jS) : (wM d σ)[3]? = some (d.2.1 3, .inl (d.2.2.1 0, 9, .inl (σ.1 3))) := rfl
theorem M_sa_3 (d : jD) (σ : jS) (f : Nat → Int32) : (wM d σ).set 3 (d.2.1 3, .inl (d.2.2.1 0, 9, .inl f)) = wM d (jc σ 3 f) := rfl
theorem M_at_4 (d : jD) (σ : jS) : (wM d σ)[4]? = some (d.2.1 4, .inl (d.2.2.1 0, 9, .inl (σ.1 4))) := rfl
theorem M_sa_4 (d : jD) (σ : jS) (f : Nat → Int32) : (wM d σ).set 4 (d.2.1 4, .inl (d.2.2.1 0, 9, .inl f)) = wM d (jc σ 4 f) := rfl
theorem M_at_5 (d : jD) (σ : jS) : (wM d σ)[5]? = some (d.2.1 5, .inl (d.2.2.1 0, 9, .inl (σ.1 5))) := rfl
theorem M_sa_5 (d : jD) (σ : jS) (f : Nat → Int32) : (wM d σ).set 5 (d.2.1 5, .inl (d.2.2.1 0, 9, .inl f)) = wM d (jc σ 5 f) := rfl
theorem M_at_6 (d : jD) (σ : jS) : (wM d σ)[6]? = some (d.2.1 6, .inl (d.2.2.1 0, 9, .inl (σ.1 6))) := rfl
theorem M_sa_6 (d : jD) (σ : jS) (f : Nat → Int32) : (wM d σ).set 6 (d.2.1 6, .inl (d.2.2.1 0, 9, .inl f)) = wM d (jc σ 6 f) := rfl
theorem M_at_7 (d : jD) (σ : jS) : (wM d σ)[7]? = some (d.2.1 7, .inl (d.2.2.1 0, 9, .inl (σ.1 7))) := rfl
theorem M_sa_7 (d : jD) (σ : jS) (f : Nat → Int32) : (wM d σ).set 7 (d.2.1 7, .inl (d.2.2.1 0, 9, .inl f)) = wM d (jc σ 7 f) := rfl
theorem M_at_8 (d : jD) (σ : jS) : (wM d σ)[8]? = some (d.2.1 8, .inl (d.2.2.1 0, 40, .inl (σ.1 8))) := rfl
theorem M_sa_8 (d : jD) (σ : jS) (f : Nat → Int32) : (wM d σ).set 8 (d.2.1 8, .inl (d.2.2.1 0, 40, .inl f)) = wM d (jc σ 8 f) := rfl
theorem M_at_9 (d : jD) (σ : jS) : (wM d σ)[9]? = some (d.2.1 9, .inl (d.2.2.1 0, 40, .inl (σ.1 9))) := rfl
theorem M_sa_9 (d : jD) (σ : jS) (f : Nat → Int32) : (wM d σ).set 9 (d.2.1 9, .inl (d.2.2.1 0, 40, .inl f)) = wM d (jc σ 9 f) := rfl
theorem M_at_10 (d : jD) (σ : jS) : (wM d σ)[10]? = some (d.2.1 10, .inl (d.2.2.1 0, 40, .inl (σ.1 10))) := rfl
theorem M_sa_10 (d : jD) (σ : jS) (f : Nat → Int32) : (wM d σ).set 10 (d.2.1 10, .inl (d.2.2.1 0, 40, .inl f)) = wM d (jc σ 10 f) := rfl
theorem M_at_11 (d : jD) (σ : jS) : (wM d σ)[11]? = some (d.2.1 11, .inl (d.2.2.1 0, 40, .inl (σ.1 11))) := rfl
theorem M_sa_11 (d : jD) (σ : jS) (f : Nat → Int32) : (wM d σ).set 11 (d.2.1 11, .inl (d.2.2.1 0, 40, .inl f)) = wM d (jc σ 11 f) := rfl
theorem M_at_12 (d : jD) (σ : jS) : (wM d σ)[12]? = some (d.2.1 12, .inl (d.2.2.1 1, 120, .inl (σ.1 12))) := rfl
theorem M_sa_12 (d : jD) (σ : jS) (f : Nat → Int32) : (wM d σ).set 12 (d.2.1 12, .inl (d.2.2.1 1, 120, .inl f)) = wM d (jc σ 12 f) := rfl
theorem M_at_13 (d : jD) (σ : jS) : (wM d σ)[13]? = some (d.2.1 13, .inl (d.2.2.1 1, 260, .inl (σ.1 13))) := rfl
theorem M_sa_13 (d : jD) (σ : jS) (f : Nat → Int32) : (wM d σ).set 13 (d.2.1 13, .inl (d.2.2.1 1, 260, .inl f)) = wM d (jc σ 13 f) := rfl
theorem M_at_14 (d : jD) (σ : jS) : (wM d σ)[14]? = some (d.2.1 14, .inl (d.2.2.1 0, 260, .inl (σ.1 14))) := rfl
theorem M_sa_14 (d : jD) (σ : jS) (f : Nat → Int32) : (wM d σ).set 14 (d.2.1 14, .inl (d.2.2.1 0, 260, .inl f)) = wM d (jc σ 14 f) := rfl
theorem M_at_15 (d : jD) (σ : jS) : (wM d σ)[15]? = some (d.2.1 15, .inl (d.2.2.1 0, 2, .inl (σ.1 15))) := rfl
theorem M_sa_15 (d : jD) (σ : jS) (f : Nat → Int32) : (wM d σ).set 15 (d.2.1 15, .inl (d.2.2.1 0, 2, .inl f)) = wM d (jc σ 15 f) := rfl
theorem M_at_16 (d : jD) (σ : jS) : (wM d σ)[16]? = some (d.2.1 16, .inl (d.2.2.1 2, 122, .inl (σ.1 16))) := rfl
theorem M_sa_16 (d : jD) (σ : jS) (f : Nat → Int32) : (wM d σ).set 16 (d.2.1 16, .inl (d.2.2.1 2, 122, .inl f)) = wM d (jc σ 16 f) := rfl
theorem M_at_17 (d : jD) (σ : jS) : (wM d σ)[17]? = some (d.2.1 17, .inl (d.2.2.1 2, 122, .inl (σ.1 17))) := rfl
theorem M_sa_17 (d : jD) (σ : jS) (f : Nat → Int32) : (wM d σ).set 17 (d.2.1 17, .inl (d.2.2.1 2, 122, .inl f)) = wM d (jc σ 17 f) := rfl
theorem M_at_18 (d : jD) (σ : jS) : (wM d σ)[18]? = some (d.2.1 18, .inl (d.2.2.1 0, 6, .inl (σ.1 18))) := rfl
theorem M_sa_18 (d : jD) (σ : jS) (f : Nat → Int32) : (wM d σ).set 18 (d.2.1 18, .inl (d.2.2.1 0, 6, .inl f)) = wM d (jc σ 18 f) := rfl
theorem M_at_19 (d : jD) (σ : jS) : (wM d σ)[19]? = some (d.2.1 19, .inl (d.2.2.1 0, 130, .inl (σ.1 19))) := rfl
theorem M_sa_19 (d : jD) (σ : jS) (f : Nat → Int32) : (wM d σ).set 19 (d.2.1 19, .inl (d.2.2.1 0, 130, .inl f)) = wM d (jc σ 19 f) := rfl
theorem M_at_20 (d : jD) (σ : jS) : (wM d σ)[20]? = some (d.2.1 20, .inl (d.2.2.1 0, 9, .inl (σ.1 20))) := rfl
theorem M_sa_20 (d : jD) (σ : jS) (f : Nat → Int32) : (wM d σ).set 20 (d.2.1 20, .inl (d.2.2.1 0, 9, .inl f)) = wM d (jc σ 20 f) := rfl
theorem M_at_21 (d : jD) (σ : jS) : (wM d σ)[21]? = some (d.2.1 21, .inl (d.2.2.1 0, 9, .inl (σ.1 21))) := rfl
theorem M_sa_21 (d : jD) (σ : jS) (f : Nat → Int32) : (wM d σ).set 21 (d.2.1 21, .inl (d.2.2.1 0, 9, .inl f)) = wM d (jc σ 21 f) := rfl
theorem M_at_22 (d : jD) (σ : jS) : (wM d σ)[22]? = some (d.2.1 22, .inl (d.2.2.1 0, 9, .inl (σ.1 22))) := rfl
theorem M_sa_22 (d : jD) (σ : jS) (f : Nat → Int32) : (wM d σ).set 22 (d.2.1 22, .inl (d.2.2.1 0, 9, .inl f)) = wM d (jc σ 22 f) := rfl
theorem M_at_23 (d : jD) (σ : jS) : (wM d σ)[23]? = some (d.2.1 23, .inl (d.2.2.1 0, 3, .inl (σ.1 23))) := rfl
theorem M_sa_23 (d : jD) (σ : jS) (f : Nat → Int32) : (wM d σ).set 23 (d.2.1 23, .inl (d.2.2.1 0, 3, .inl f)) = wM d (jc σ 23 f) := rfl
theorem M_at_24 (d : jD) (σ : jS) : (wM d σ)[24]? = some (d.2.1 24, .inl (d.2.2.1 0, 9, .inl (σ.1 24))) := rfl
theorem M_sa_24 (d : jD) (σ : jS) (f : Nat → Int32) : (wM d σ).set 24 (d.2.1 24, .inl (d.2.2.1 0, 9, .inl f)) = wM d (jc σ 24 f) := rfl
theorem M_at_25 (d : jD) (σ : jS) : (wM d σ)[25]? = some (d.2.1 25, .inl (d.2.2.1 0, 9, .inl (σ.1 25))) := rfl
theorem M_sa_25 (d : jD) (σ : jS) (f : Nat → Int32) : (wM d σ).set 25 (d.2.1 25, .inl (d.2.2.1 0, 9, .inl f)) = wM d (jc σ 25 f) := rfl
theorem M_at_26 (d : jD) (σ : jS) : (wM d σ)[26]? = some (d.2.1 26, .inl (d.2.2.1 0, 9, .inl (σ.1 26))) := rfl
theorem M_sa_26 (d : jD) (σ : jS) (f : Nat → Int32) : (wM d σ).set 26 (d.2.1 26, .inl (d.2.2.1 0, 9, .inl f)) = wM d (jc σ 26 f) := rfl
theorem M_at_27 (d : jD) (σ : jS) : (wM d σ)[27]? = some (d.2.1 27, .inl (d.2.2.1 0, 10, .inl (σ.1 27))) := rfl
theorem M_sa_27 (d : jD) (σ : jS) (f : Nat → Int32) : (wM d σ).set 27 (d.2.1 27, .inl (d.2.2.1 0, 10, .inl f)) = wM d (jc σ 27 f) := rfl
theorem M_at_28 (d : jD) (σ : jS) : (wM d σ)[28]? = some (d.2.1 28, .inl (d.2.2.1 0, 10, .inl (σ.1 28))) := rfl
theorem M_sa_28 (d : jD) (σ : jS) (f : Nat → Int32) : (wM d σ).set 28 (d.2.1 28, .inl (d.2.2.1 0, 10, .inl f)) = wM d (jc σ 28 f) := rfl
theorem M_at_29 (d : jD) (σ : jS) : (wM d σ)[29]? = some (d.2.1 29, .inl (d.2.2.1 0, 50, .inl (σ.1 29))) := rfl
theorem M_sa_29 (d : jD) (σ : jS) (f : Nat → Int32) : (wM d σ).set 29 (d.2.1 29, .inl (d.2.2.1 0, 50, .inl f)) = wM d (jc σ 29 f) := rfl
theorem M_at_30 (d : jD) (σ : jS) : (wM d σ)[30]? = some (d.2.1 30, .inl (d.2.2.1 0, 24, .inl (σ.1 30))) := rfl
theorem M_sa_30 (d : jD) (σ : jS) (f : Nat → Int32) : (wM d σ).set 30 (d.2.1 30, .inl (d.2.2.1 0, 24, .inl f)) = wM d (jc σ 30 f) := rfl
theorem M_at_31 (d : jD) (σ : jS) : (wM d σ)[31]? = some (d.2.1 31, .inl (d.2.2.1 0, 6, .inl (σ.1 31))) := rfl
theorem M_sa_31 (d : jD) (σ : jS) (f : Nat → Int32) : (wM d σ).set 31 (d.2.1 31, .inl (d.2.2.1 0, 6, .inl f)) = wM d (jc σ 31 f) := rfl
theorem M_at_32 (d : jD) (σ : jS) : (wM d σ)[32]? = some (d.2.1 32, .inl (d.2.2.1 0, 6, .inl (σ.1 32))) := rfl
theorem M_sa_32 (d : jD) (σ : jS) (f : Nat → Int32) : (wM d σ).set 32 (d.2.1 32, .inl (d.2.2.1 0, 6, .inl f)) = wM d (jc σ 32 f) := rfl
theorem M_at_33 (d : jD) (σ : jS) : (wM d σ)[33]? = some (d.2.1 33, .inl (d.2.2.1 3, 360, .inr (.inl (σ.2 33)))) := rfl
theorem M_sa_33 (d : jD) (σ : jS) (f : Nat → Int64) : (wM d σ).set 33 (d.2.1 33, .inl (d.2.2.1 3, 360, .inr (.inl f))) = wM d (jcl σ 33 f) := rfl
theorem M_at_34 (d : jD) (σ : jS) : (wM d σ)[34]? = some (d.2.1 34, .inl (d.2.2.1 3, 60, .inr (.inl (σ.2 34)))) := rfl
theorem M_sa_34 (d : jD) (σ : jS) (f : Nat → Int64) : (wM d σ).set 34 (d.2.1 34, .inl (d.2.2.1 3, 60, .inr (.inl f))) = wM d (jcl σ 34 f) := rfl
/-- how often a loop may go round: 6000 or more; not to be computed with -/
noncomputable def jN : Nat := Classical.choose (show ∃ n : Nat, 6000 ≤ n from ⟨6000, Nat.le_refl _⟩)
theorem jN_ge : 6000 ≤ jN := Classical.choose_spec (show ∃ n : Nat, 6000 ≤ n from ⟨6000, Nat.le_refl _⟩)
def jG : Nat := 100
