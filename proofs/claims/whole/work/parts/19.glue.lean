theorem lsn {x c : Int32} {a o d : Int} {r : List (Int × Int)} (ha : a = c.toInt) (h : ¬ x = c) : Op.lookupswitch.offset ((a, o) :: r) d x.toInt = Op.lookupswitch.offset r d x.toInt := by
  rw [Op.lookupswitch.offset_cons, if_neg (fun q => h (Int32.toInt_inj.mp (by rw [← q, ha])))]
