def qg_0 (q : ev_LQ) : Value := q.1.1.1.1.1
def qs_0 (q : ev_LQ) (v : Value) : ev_LQ := (((((v, q.1.1.1.1.2), q.1.1.1.2), q.1.1.2), q.1.2), q.2)
def qt_0 (q : ev_LQ) (v : Value) : ev_LQ := (((((v, q_no), q.1.1.1.2), q.1.1.2), q.1.2), q.2)
theorem qg_0_ok (q : ev_LQ) : qg_0 q = q_g q 0 := rfl
theorem qs_0_ok (q : ev_LQ) (v : Value) : qs_0 q v = q_s1 q 0 v := rfl
theorem qt_0_ok (q : ev_LQ) (v : Value) : qt_0 q v = q_s2 q 0 v := rfl
def qg_1 (q : ev_LQ) : Value := q.1.1.1.1.2
def qs_1 (q : ev_LQ) (v : Value) : ev_LQ := ((((((q_cl q.1.1.1.1.1), v), q.1.1.1.2), q.1.1.2), q.1.2), q.2)
def qt_1 (q : ev_LQ) (v : Value) : ev_LQ := ((((((q_cl q.1.1.1.1.1), v), (q_no, q.1.1.1.2.2)), q.1.1.2), q.1.2), q.2)
theorem qg_1_ok (q : ev_LQ) : qg_1 q = q_g q 1 := rfl
theorem qs_1_ok (q : ev_LQ) (v : Value) : qs_1 q v = q_s1 q 1 v := rfl
theorem qt_1_ok (q : ev_LQ) (v : Value) : qt_1 q v = q_s2 q 1 v := rfl
def qg_2 (q : ev_LQ) : Value := q.1.1.1.2.1
def qs_2 (q : ev_LQ) (v : Value) : ev_LQ := (((((q.1.1.1.1.1, (q_cl q.1.1.1.1.2)), (v, q.1.1.1.2.2)), q.1.1.2), q.1.2), q.2)
def qt_2 (q : ev_LQ) (v : Value) : ev_LQ := (((((q.1.1.1.1.1, (q_cl q.1.1.1.1.2)), (v, q_no)), q.1.1.2), q.1.2), q.2)
theorem qg_2_ok (q : ev_LQ) : qg_2 q = q_g q 2 := rfl
theorem qs_2_ok (q : ev_LQ) (v : Value) : qs_2 q v = q_s1 q 2 v := rfl
theorem qt_2_ok (q : ev_LQ) (v : Value) : qt_2 q v = q_s2 q 2 v := rfl
def qg_3 (q : ev_LQ) : Value := q.1.1.1.2.2
def qs_3 (q : ev_LQ) (v : Value) : ev_LQ := ((((q.1.1.1.1, ((q_cl q.1.1.1.2.1), v)), q.1.1.2), q.1.2), q.2)
def qt_3 (q : ev_LQ) (v : Value) : ev_LQ := ((((q.1.1.1.1, ((q_cl q.1.1.1.2.1), v)), ((q_no, q.1.1.2.1.2), q.1.1.2.2)), q.1.2), q.2)
theorem qg_3_ok (q : ev_LQ) : qg_3 q = q_g q 3 := rfl
theorem qs_3_ok (q : ev_LQ) (v : Value) : qs_3 q v = q_s1 q 3 v := rfl
theorem qt_3_ok (q : ev_LQ) (v : Value) : qt_3 q v = q_s2 q 3 v := rfl
def qg_4 (q : ev_LQ) : Value := q.1.1.2.1.1
def qs_4 (q : ev_LQ) (v : Value) : ev_LQ := ((((q.1.1.1.1, (q.1.1.1.2.1, (q_cl q.1.1.1.2.2))), ((v, q.1.1.2.1.2), q.1.1.2.2)), q.1.2), q.2)
def qt_4 (q : ev_LQ) (v : Value) : ev_LQ := ((((q.1.1.1.1, (q.1.1.1.2.1, (q_cl q.1.1.1.2.2))), ((v, q_no), q.1.1.2.2)), q.1.2), q.2)
theorem qg_4_ok (q : ev_LQ) : qg_4 q = q_g q 4 := rfl
theorem qs_4_ok (q : ev_LQ) (v : Value) : qs_4 q v = q_s1 q 4 v := rfl
theorem qt_4_ok (q : ev_LQ) (v : Value) : qt_4 q v = q_s2 q 4 v := rfl
def qg_5 (q : ev_LQ) : Value := q.1.1.2.1.2
def qs_5 (q : ev_LQ) (v : Value) : ev_LQ := (((q.1.1.1, (((q_cl q.1.1.2.1.1), v), q.1.1.2.2)), q.1.2), q.2)
def qt_5 (q : ev_LQ) (v : Value) : ev_LQ := (((q.1.1.1, (((q_cl q.1.1.2.1.1), v), (q_no, q.1.1.2.2.2))), q.1.2), q.2)
theorem qg_5_ok (q : ev_LQ) : qg_5 q = q_g q 5 := rfl
theorem qs_5_ok (q : ev_LQ) (v : Value) : qs_5 q v = q_s1 q 5 v := rfl
theorem qt_5_ok (q : ev_LQ) (v : Value) : qt_5 q v = q_s2 q 5 v := rfl
def qg_6 (q : ev_LQ) : Value := q.1.1.2.2.1
def qs_6 (q : ev_LQ) (v : Value) : ev_LQ := (((q.1.1.1, ((q.1.1.2.1.1, (q_cl q.1.1.2.1.2)), (v, q.1.1.2.2.2))), q.1.2), q.2)
def qt_6 (q : ev_LQ) (v : Value) : ev_LQ := (((q.1.1.1, ((q.1.1.2.1.1, (q_cl q.1.1.2.1.2)), (v, q_no))), q.1.2), q.2)
theorem qg_6_ok (q : ev_LQ) : qg_6 q = q_g q 6 := rfl
theorem qs_6_ok (q : ev_LQ) (v : Value) : qs_6 q v = q_s1 q 6 v := rfl
theorem qt_6_ok (q : ev_LQ) (v : Value) : qt_6 q v = q_s2 q 6 v := rfl
def qg_7 (q : ev_LQ) : Value := q.1.1.2.2.2
def qs_7 (q : ev_LQ) (v : Value) : ev_LQ := (((q.1.1.1, (q.1.1.2.1, ((q_cl q.1.1.2.2.1), v))), q.1.2), q.2)
def qt_7 (q : ev_LQ) (v : Value) : ev_LQ := (((q.1.1.1, (q.1.1.2.1, ((q_cl q.1.1.2.2.1), v))), (((q_no, q.1.2.1.1.2), q.1.2.1.2), q.1.2.2)), q.2)
theorem qg_7_ok (q : ev_LQ) : qg_7 q = q_g q 7 := rfl
theorem qs_7_ok (q : ev_LQ) (v : Value) : qs_7 q v = q_s1 q 7 v := rfl
theorem qt_7_ok (q : ev_LQ) (v : Value) : qt_7 q v = q_s2 q 7 v := rfl
def qg_8 (q : ev_LQ) : Value := q.1.2.1.1.1
def qs_8 (q : ev_LQ) (v : Value) : ev_LQ := (((q.1.1.1, (q.1.1.2.1, (q.1.1.2.2.1, (q_cl q.1.1.2.2.2)))), (((v, q.1.2.1.1.2), q.1.2.1.2), q.1.2.2)), q.2)
def qt_8 (q : ev_LQ) (v : Value) : ev_LQ := (((q.1.1.1, (q.1.1.2.1, (q.1.1.2.2.1, (q_cl q.1.1.2.2.2)))), (((v, q_no), q.1.2.1.2), q.1.2.2)), q.2)
theorem qg_8_ok (q : ev_LQ) : qg_8 q = q_g q 8 := rfl
theorem qs_8_ok (q : ev_LQ) (v : Value) : qs_8 q v = q_s1 q 8 v := rfl
theorem qt_8_ok (q : ev_LQ) (v : Value) : qt_8 q v = q_s2 q 8 v := rfl
def qg_9 (q : ev_LQ) : Value := q.1.2.1.1.2
def qs_9 (q : ev_LQ) (v : Value) : ev_LQ := ((q.1.1, ((((q_cl q.1.2.1.1.1), v), q.1.2.1.2), q.1.2.2)), q.2)
def qt_9 (q : ev_LQ) (v : Value) : ev_LQ := ((q.1.1, ((((q_cl q.1.2.1.1.1), v), (q_no, q.1.2.1.2.2)), q.1.2.2)), q.2)
theorem qg_9_ok (q : ev_LQ) : qg_9 q = q_g q 9 := rfl
theorem qs_9_ok (q : ev_LQ) (v : Value) : qs_9 q v = q_s1 q 9 v := rfl
theorem qt_9_ok (q : ev_LQ) (v : Value) : qt_9 q v = q_s2 q 9 v := rfl
def qg_10 (q : ev_LQ) : Value := q.1.2.1.2.1
def qs_10 (q : ev_LQ) (v : Value) : ev_LQ := ((q.1.1, (((q.1.2.1.1.1, (q_cl q.1.2.1.1.2)), (v, q.1.2.1.2.2)), q.1.2.2)), q.2)
def qt_10 (q : ev_LQ) (v : Value) : ev_LQ := ((q.1.1, (((q.1.2.1.1.1, (q_cl q.1.2.1.1.2)), (v, q_no)), q.1.2.2)), q.2)
theorem qg_10_ok (q : ev_LQ) : qg_10 q = q_g q 10 := rfl
theorem qs_10_ok (q : ev_LQ) (v : Value) : qs_10 q v = q_s1 q 10 v := rfl
theorem qt_10_ok (q : ev_LQ) (v : Value) : qt_10 q v = q_s2 q 10 v := rfl
def qg_11 (q : ev_LQ) : Value := q.1.2.1.2.2
def qs_11 (q : ev_LQ) (v : Value) : ev_LQ := ((q.1.1, ((q.1.2.1.1, ((q_cl q.1.2.1.2.1), v)), q.1.2.2)), q.2)
def qt_11 (q : ev_LQ) (v : Value) : ev_LQ := ((q.1.1, ((q.1.2.1.1, ((q_cl q.1.2.1.2.1), v)), ((q_no, q.1.2.2.1.2), q.1.2.2.2))), q.2)
theorem qg_11_ok (q : ev_LQ) : qg_11 q = q_g q 11 := rfl
theorem qs_11_ok (q : ev_LQ) (v : Value) : qs_11 q v = q_s1 q 11 v := rfl
theorem qt_11_ok (q : ev_LQ) (v : Value) : qt_11 q v = q_s2 q 11 v := rfl
def qg_12 (q : ev_LQ) : Value := q.1.2.2.1.1
def qs_12 (q : ev_LQ) (v : Value) : ev_LQ := ((q.1.1, ((q.1.2.1.1, (q.1.2.1.2.1, (q_cl q.1.2.1.2.2))), ((v, q.1.2.2.1.2), q.1.2.2.2))), q.2)
def qt_12 (q : ev_LQ) (v : Value) : ev_LQ := ((q.1.1, ((q.1.2.1.1, (q.1.2.1.2.1, (q_cl q.1.2.1.2.2))), ((v, q_no), q.1.2.2.2))), q.2)
theorem qg_12_ok (q : ev_LQ) : qg_12 q = q_g q 12 := rfl
theorem qs_12_ok (q : ev_LQ) (v : Value) : qs_12 q v = q_s1 q 12 v := rfl
theorem qt_12_ok (q : ev_LQ) (v : Value) : qt_12 q v = q_s2 q 12 v := rfl
def qg_13 (q : ev_LQ) : Value := q.1.2.2.1.2
def qs_13 (q : ev_LQ) (v : Value) : ev_LQ := ((q.1.1, (q.1.2.1, (((q_cl q.1.2.2.1.1), v), q.1.2.2.2))), q.2)
def qt_13 (q : ev_LQ) (v : Value) : ev_LQ := ((q.1.1, (q.1.2.1, (((q_cl q.1.2.2.1.1), v), (q_no, q.1.2.2.2.2)))), q.2)
theorem qg_13_ok (q : ev_LQ) : qg_13 q = q_g q 13 := rfl
theorem qs_13_ok (q : ev_LQ) (v : Value) : qs_13 q v = q_s1 q 13 v := rfl
theorem qt_13_ok (q : ev_LQ) (v : Value) : qt_13 q v = q_s2 q 13 v := rfl
def qg_14 (q : ev_LQ) : Value := q.1.2.2.2.1
def qs_14 (q : ev_LQ) (v : Value) : ev_LQ := ((q.1.1, (q.1.2.1, ((q.1.2.2.1.1, (q_cl q.1.2.2.1.2)), (v, q.1.2.2.2.2)))), q.2)
def qt_14 (q : ev_LQ) (v : Value) : ev_LQ := ((q.1.1, (q.1.2.1, ((q.1.2.2.1.1, (q_cl q.1.2.2.1.2)), (v, q_no)))), q.2)
theorem qg_14_ok (q : ev_LQ) : qg_14 q = q_g q 14 := rfl
theorem qs_14_ok (q : ev_LQ) (v : Value) : qs_14 q v = q_s1 q 14 v := rfl
theorem qt_14_ok (q : ev_LQ) (v : Value) : qt_14 q v = q_s2 q 14 v := rfl
def qg_15 (q : ev_LQ) : Value := q.1.2.2.2.2
def qs_15 (q : ev_LQ) (v : Value) : ev_LQ := ((q.1.1, (q.1.2.1, (q.1.2.2.1, ((q_cl q.1.2.2.2.1), v)))), q.2)
def qt_15 (q : ev_LQ) (v : Value) : ev_LQ := ((q.1.1, (q.1.2.1, (q.1.2.2.1, ((q_cl q.1.2.2.2.1), v)))), ((((q_no, q.2.1.1.1.2), q.2.1.1.2), q.2.1.2), q.2.2))
theorem qg_15_ok (q : ev_LQ) : qg_15 q = q_g q 15 := rfl
theorem qs_15_ok (q : ev_LQ) (v : Value) : qs_15 q v = q_s1 q 15 v := rfl
theorem qt_15_ok (q : ev_LQ) (v : Value) : qt_15 q v = q_s2 q 15 v := rfl
def qg_16 (q : ev_LQ) : Value := q.2.1.1.1.1
def qs_16 (q : ev_LQ) (v : Value) : ev_LQ := ((q.1.1, (q.1.2.1, (q.1.2.2.1, (q.1.2.2.2.1, (q_cl q.1.2.2.2.2))))), ((((v, q.2.1.1.1.2), q.2.1.1.2), q.2.1.2), q.2.2))
def qt_16 (q : ev_LQ) (v : Value) : ev_LQ := ((q.1.1, (q.1.2.1, (q.1.2.2.1, (q.1.2.2.2.1, (q_cl q.1.2.2.2.2))))), ((((v, q_no), q.2.1.1.2), q.2.1.2), q.2.2))
theorem qg_16_ok (q : ev_LQ) : qg_16 q = q_g q 16 := rfl
theorem qs_16_ok (q : ev_LQ) (v : Value) : qs_16 q v = q_s1 q 16 v := rfl
theorem qt_16_ok (q : ev_LQ) (v : Value) : qt_16 q v = q_s2 q 16 v := rfl
def qg_17 (q : ev_LQ) : Value := q.2.1.1.1.2
def qs_17 (q : ev_LQ) (v : Value) : ev_LQ := (q.1, (((((q_cl q.2.1.1.1.1), v), q.2.1.1.2), q.2.1.2), q.2.2))
def qt_17 (q : ev_LQ) (v : Value) : ev_LQ := (q.1, (((((q_cl q.2.1.1.1.1), v), (q_no, q.2.1.1.2.2)), q.2.1.2), q.2.2))
theorem qg_17_ok (q : ev_LQ) : qg_17 q = q_g q 17 := rfl
theorem qs_17_ok (q : ev_LQ) (v : Value) : qs_17 q v = q_s1 q 17 v := rfl
theorem qt_17_ok (q : ev_LQ) (v : Value) : qt_17 q v = q_s2 q 17 v := rfl
def qg_18 (q : ev_LQ) : Value := q.2.1.1.2.1
def qs_18 (q : ev_LQ) (v : Value) : ev_LQ := (q.1, ((((q.2.1.1.1.1, (q_cl q.2.1.1.1.2)), (v, q.2.1.1.2.2)), q.2.1.2), q.2.2))
def qt_18 (q : ev_LQ) (v : Value) : ev_LQ := (q.1, ((((q.2.1.1.1.1, (q_cl q.2.1.1.1.2)), (v, q_no)), q.2.1.2), q.2.2))
theorem qg_18_ok (q : ev_LQ) : qg_18 q = q_g q 18 := rfl
theorem qs_18_ok (q : ev_LQ) (v : Value) : qs_18 q v = q_s1 q 18 v := rfl
theorem qt_18_ok (q : ev_LQ) (v : Value) : qt_18 q v = q_s2 q 18 v := rfl
def qg_19 (q : ev_LQ) : Value := q.2.1.1.2.2
def qs_19 (q : ev_LQ) (v : Value) : ev_LQ := (q.1, (((q.2.1.1.1, ((q_cl q.2.1.1.2.1), v)), q.2.1.2), q.2.2))
def qt_19 (q : ev_LQ) (v : Value) : ev_LQ := (q.1, (((q.2.1.1.1, ((q_cl q.2.1.1.2.1), v)), ((q_no, q.2.1.2.1.2), q.2.1.2.2)), q.2.2))
theorem qg_19_ok (q : ev_LQ) : qg_19 q = q_g q 19 := rfl
theorem qs_19_ok (q : ev_LQ) (v : Value) : qs_19 q v = q_s1 q 19 v := rfl
theorem qt_19_ok (q : ev_LQ) (v : Value) : qt_19 q v = q_s2 q 19 v := rfl
def qg_20 (q : ev_LQ) : Value := q.2.1.2.1.1
def qs_20 (q : ev_LQ) (v : Value) : ev_LQ := (q.1, (((q.2.1.1.1, (q.2.1.1.2.1, (q_cl q.2.1.1.2.2))), ((v, q.2.1.2.1.2), q.2.1.2.2)), q.2.2))
def qt_20 (q : ev_LQ) (v : Value) : ev_LQ := (q.1, (((q.2.1.1.1, (q.2.1.1.2.1, (q_cl q.2.1.1.2.2))), ((v, q_no), q.2.1.2.2)), q.2.2))
theorem qg_20_ok (q : ev_LQ) : qg_20 q = q_g q 20 := rfl
theorem qs_20_ok (q : ev_LQ) (v : Value) : qs_20 q v = q_s1 q 20 v := rfl
theorem qt_20_ok (q : ev_LQ) (v : Value) : qt_20 q v = q_s2 q 20 v := rfl
def qg_21 (q : ev_LQ) : Value := q.2.1.2.1.2
def qs_21 (q : ev_LQ) (v : Value) : ev_LQ := (q.1, ((q.2.1.1, (((q_cl q.2.1.2.1.1), v), q.2.1.2.2)), q.2.2))
def qt_21 (q : ev_LQ) (v : Value) : ev_LQ := (q.1, ((q.2.1.1, (((q_cl q.2.1.2.1.1), v), (q_no, q.2.1.2.2.2))), q.2.2))
theorem qg_21_ok (q : ev_LQ) : qg_21 q = q_g q 21 := rfl
theorem qs_21_ok (q : ev_LQ) (v : Value) : qs_21 q v = q_s1 q 21 v := rfl
theorem qt_21_ok (q : ev_LQ) (v : Value) : qt_21 q v = q_s2 q 21 v := rfl
def qg_22 (q : ev_LQ) : Value := q.2.1.2.2.1
def qs_22 (q : ev_LQ) (v : Value) : ev_LQ := (q.1, ((q.2.1.1, ((q.2.1.2.1.1, (q_cl q.2.1.2.1.2)), (v, q.2.1.2.2.2))), q.2.2))
def qt_22 (q : ev_LQ) (v : Value) : ev_LQ := (q.1, ((q.2.1.1, ((q.2.1.2.1.1, (q_cl q.2.1.2.1.2)), (v, q_no))), q.2.2))
theorem qg_22_ok (q : ev_LQ) : qg_22 q = q_g q 22 := rfl
theorem qs_22_ok (q : ev_LQ) (v : Value) : qs_22 q v = q_s1 q 22 v := rfl
theorem qt_22_ok (q : ev_LQ) (v : Value) : qt_22 q v = q_s2 q 22 v := rfl
def qg_23 (q : ev_LQ) : Value := q.2.1.2.2.2
def qs_23 (q : ev_LQ) (v : Value) : ev_LQ := (q.1, ((q.2.1.1, (q.2.1.2.1, ((q_cl q.2.1.2.2.1), v))), q.2.2))
def qt_23 (q : ev_LQ) (v : Value) : ev_LQ := (q.1, ((q.2.1.1, (q.2.1.2.1, ((q_cl q.2.1.2.2.1), v))), (((q_no, q.2.2.1.1.2), q.2.2.1.2), q.2.2.2)))
theorem qg_23_ok (q : ev_LQ) : qg_23 q = q_g q 23 := rfl
theorem qs_23_ok (q : ev_LQ) (v : Value) : qs_23 q v = q_s1 q 23 v := rfl
theorem qt_23_ok (q : ev_LQ) (v : Value) : qt_23 q v = q_s2 q 23 v := rfl
def qg_24 (q : ev_LQ) : Value := q.2.2.1.1.1
def qs_24 (q : ev_LQ) (v : Value) : ev_LQ := (q.1, ((q.2.1.1, (q.2.1.2.1, (q.2.1.2.2.1, (q_cl q.2.1.2.2.2)))), (((v, q.2.2.1.1.2), q.2.2.1.2), q.2.2.2)))
def qt_24 (q : ev_LQ) (v : Value) : ev_LQ := (q.1, ((q.2.1.1, (q.2.1.2.1, (q.2.1.2.2.1, (q_cl q.2.1.2.2.2)))), (((v, q_no), q.2.2.1.2), q.2.2.2)))
theorem qg_24_ok (q : ev_LQ) : qg_24 q = q_g q 24 := rfl
theorem qs_24_ok (q : ev_LQ) (v : Value) : qs_24 q v = q_s1 q 24 v := rfl
theorem qt_24_ok (q : ev_LQ) (v : Value) : qt_24 q v = q_s2 q 24 v := rfl
def qg_25 (q : ev_LQ) : Value := q.2.2.1.1.2
def qs_25 (q : ev_LQ) (v : Value) : ev_LQ := (q.1, (q.2.1, ((((q_cl q.2.2.1.1.1), v), q.2.2.1.2), q.2.2.2)))
def qt_25 (q : ev_LQ) (v : Value) : ev_LQ := (q.1, (q.2.1, ((((q_cl q.2.2.1.1.1), v), (q_no, q.2.2.1.2.2)), q.2.2.2)))
theorem qg_25_ok (q : ev_LQ) : qg_25 q = q_g q 25 := rfl
theorem qs_25_ok (q : ev_LQ) (v : Value) : qs_25 q v = q_s1 q 25 v := rfl
theorem qt_25_ok (q : ev_LQ) (v : Value) : qt_25 q v = q_s2 q 25 v := rfl
def qg_26 (q : ev_LQ) : Value := q.2.2.1.2.1
def qs_26 (q : ev_LQ) (v : Value) : ev_LQ := (q.1, (q.2.1, (((q.2.2.1.1.1, (q_cl q.2.2.1.1.2)), (v, q.2.2.1.2.2)), q.2.2.2)))
def qt_26 (q : ev_LQ) (v : Value) : ev_LQ := (q.1, (q.2.1, (((q.2.2.1.1.1, (q_cl q.2.2.1.1.2)), (v, q_no)), q.2.2.2)))
theorem qg_26_ok (q : ev_LQ) : qg_26 q = q_g q 26 := rfl
theorem qs_26_ok (q : ev_LQ) (v : Value) : qs_26 q v = q_s1 q 26 v := rfl
theorem qt_26_ok (q : ev_LQ) (v : Value) : qt_26 q v = q_s2 q 26 v := rfl
def qg_27 (q : ev_LQ) : Value := q.2.2.1.2.2
def qs_27 (q : ev_LQ) (v : Value) : ev_LQ := (q.1, (q.2.1, ((q.2.2.1.1, ((q_cl q.2.2.1.2.1), v)), q.2.2.2)))
def qt_27 (q : ev_LQ) (v : Value) : ev_LQ := (q.1, (q.2.1, ((q.2.2.1.1, ((q_cl q.2.2.1.2.1), v)), ((q_no, q.2.2.2.1.2), q.2.2.2.2))))
theorem qg_27_ok (q : ev_LQ) : qg_27 q = q_g q 27 := rfl
theorem qs_27_ok (q : ev_LQ) (v : Value) : qs_27 q v = q_s1 q 27 v := rfl
theorem qt_27_ok (q : ev_LQ) (v : Value) : qt_27 q v = q_s2 q 27 v := rfl
def qg_28 (q : ev_LQ) : Value := q.2.2.2.1.1
def qs_28 (q : ev_LQ) (v : Value) : ev_LQ := (q.1, (q.2.1, ((q.2.2.1.1, (q.2.2.1.2.1, (q_cl q.2.2.1.2.2))), ((v, q.2.2.2.1.2), q.2.2.2.2))))
def qt_28 (q : ev_LQ) (v : Value) : ev_LQ := (q.1, (q.2.1, ((q.2.2.1.1, (q.2.2.1.2.1, (q_cl q.2.2.1.2.2))), ((v, q_no), q.2.2.2.2))))
theorem qg_28_ok (q : ev_LQ) : qg_28 q = q_g q 28 := rfl
theorem qs_28_ok (q : ev_LQ) (v : Value) : qs_28 q v = q_s1 q 28 v := rfl
theorem qt_28_ok (q : ev_LQ) (v : Value) : qt_28 q v = q_s2 q 28 v := rfl
def qg_29 (q : ev_LQ) : Value := q.2.2.2.1.2
def qs_29 (q : ev_LQ) (v : Value) : ev_LQ := (q.1, (q.2.1, (q.2.2.1, (((q_cl q.2.2.2.1.1), v), q.2.2.2.2))))
def qt_29 (q : ev_LQ) (v : Value) : ev_LQ := (q.1, (q.2.1, (q.2.2.1, (((q_cl q.2.2.2.1.1), v), (q_no, q.2.2.2.2.2)))))
theorem qg_29_ok (q : ev_LQ) : qg_29 q = q_g q 29 := rfl
theorem qs_29_ok (q : ev_LQ) (v : Value) : qs_29 q v = q_s1 q 29 v := rfl
theorem qt_29_ok (q : ev_LQ) (v : Value) : qt_29 q v = q_s2 q 29 v := rfl
def qg_30 (q : ev_LQ) : Value := q.2.2.2.2.1
def qs_30 (q : ev_LQ) (v : Value) : ev_LQ := (q.1, (q.2.1, (q.2.2.1, ((q.2.2.2.1.1, (q_cl q.2.2.2.1.2)), (v, q.2.2.2.2.2)))))
def qt_30 (q : ev_LQ) (v : Value) : ev_LQ := (q.1, (q.2.1, (q.2.2.1, ((q.2.2.2.1.1, (q_cl q.2.2.2.1.2)), (v, q_no)))))
theorem qg_30_ok (q : ev_LQ) : qg_30 q = q_g q 30 := rfl
theorem qs_30_ok (q : ev_LQ) (v : Value) : qs_30 q v = q_s1 q 30 v := rfl
theorem qt_30_ok (q : ev_LQ) (v : Value) : qt_30 q v = q_s2 q 30 v := rfl
def q_n (x : Int32) : Nat := x.toUInt32.toBitVec.toFin.val
def q_i (n : Nat) : Int32 := ⟨⟨⟨Nat.mod n 4294967296, Nat.mod_lt _ (by decide)⟩⟩⟩
def q_add (x y : Int32) : Int32 := ⟨⟨⟨Nat.mod (Nat.add (q_n x) (q_n y)) 4294967296, Nat.mod_lt _ (by decide)⟩⟩⟩
def q_sub (x y : Int32) : Int32 := ⟨⟨⟨Nat.mod (Nat.add (Nat.sub 4294967296 (q_n y)) (q_n x)) 4294967296, Nat.mod_lt _ (by decide)⟩⟩⟩
theorem q_add_eq (x y : Int32) : q_add x y = x + y := rfl
theorem q_sub_eq (x y : Int32) : q_sub x y = x - y := rfl
theorem q_i_eq (n : Nat) : q_i n = Int32.ofNat n := rfl
def q_eq (x y : Int32) : Bool := Nat.beq (q_n x) (q_n y)
def q_s (x : Int32) : Nat := Nat.mod (Nat.add (q_n x) 2147483648) 4294967296
def q_le (x y : Int32) : Bool := Nat.ble (q_s x) (q_s y)
theorem q_n_int (x : Int32) : (q_n x : Int) = if q_n x < 2147483648 then x.toInt else x.toInt + 4294967296 := by
  have h : x.toInt = (q_n x : Int).bmod 4294967296 := by
    show x.toBitVec.toInt = _
    rw [BitVec.toInt_eq_toNat_bmod]
    rfl
  have h2 : q_n x < 4294967296 := x.toUInt32.toBitVec.toFin.isLt
  rw [h]
  unfold Int.bmod
  simp only []
  split <;> split <;> omega
theorem q_n_lt (x : Int32) : q_n x < 4294967296 := x.toUInt32.toBitVec.toFin.isLt
theorem q_s_int (x : Int32) : (q_s x : Int) = x.toInt + 2147483648 := by
  have h := q_n_int x
  have h2 := q_n_lt x
  have h3 := x.toInt_lt
  have h4 := x.le_toInt
  have h5 : q_s x = (q_n x + 2147483648) % 4294967296 := by unfold q_s; rfl
  rw [h5]
  split at h <;> omega
theorem q_le_eq (x y : Int32) : q_le x y = decide (x ≤ y) := by
  have h1 := q_s_int x
  have h2 := q_s_int y
  unfold q_le
  by_cases h : x ≤ y
  · have h3 := Int32.le_iff_toInt_le.mp h
    rw [decide_eq_true h]
    exact Nat.ble_eq.mpr (by omega)
  · rw [decide_eq_false h]
    cases hb : Nat.ble (q_s x) (q_s y) with
    | false => rfl
    | true =>
      have h3 := Nat.le_of_ble_eq_true hb
      exact absurd (Int32.le_iff_toInt_le.mpr (by omega)) h
theorem q_lt_eq (x y : Int32) : (!q_le y x) = decide (x < y) := by
  rw [q_le_eq]
  by_cases h : x < y
  · rw [decide_eq_true h, decide_eq_false (by rw [Int32.le_iff_toInt_le]; have := Int32.lt_iff_toInt_lt.mp h; omega)]; rfl
  · rw [decide_eq_false h, decide_eq_true (by rw [Int32.le_iff_toInt_le]; rw [Int32.lt_iff_toInt_lt] at h; omega)]; rfl
theorem q_ge_eq (x y : Int32) : q_le y x = !decide (x < y) := by rw [← q_lt_eq, Bool.not_not]
theorem q_eq_eq (x y : Int32) : q_eq x y = decide (x = y) := by
  unfold q_eq
  by_cases h : x = y
  · subst h; rw [Nat.beq_refl]; simp
  · rw [decide_eq_false h]
    cases hb : Nat.beq (q_n x) (q_n y) with
    | false => rfl
    | true =>
      have h1 := q_n_int x
      have h2 := q_n_int y
      rw [Nat.eq_of_beq_eq_true hb] at h1
      exact absurd (Int32.toInt_inj.mp (by omega)) h
def q_ix (x : Int32) (n : Nat) : Bool := Nat.ble (q_n x) 2147483647 && Nat.ble (Nat.succ (q_n x)) n
theorem q_ix_ok {x : Int32} {n : Nat} (h : q_ix x n = true) : ev_ix x n = true ∧ x.toNatClampNeg = q_n x := by
  unfold q_ix at h
  rw [Bool.and_eq_true] at h
  have h1 := Nat.le_of_ble_eq_true h.1
  have h2 := Nat.le_of_ble_eq_true h.2
  have h3 := q_n_int x
  rw [if_pos (by omega)] at h3
  have h4 : x.toNatClampNeg = q_n x := by
    show x.toInt.toNat = _
    omega
  have h5 : ¬ x < 0 := by
    rw [Int32.lt_iff_toInt_lt]
    show ¬ x.toInt < 0
    omega
  refine ⟨?_, h4⟩
  unfold ev_ix
  rw [h4, decide_eq_false h5]
  exact Nat.ble_eq.mpr h2
theorem ev_g_lt {t : ev_T} {a : Nat} {x : va_E} (h : ev_g t a = some x) : a < 256 := by
  unfold ev_g at h
  cases hb : Nat.ble a 255 with
  | false =>
    have hb2 : Nat.ble a (nat_lit 255) = false := hb
    rw [hb2] at h; cases h
  | true => have := Nat.le_of_ble_eq_true hb; omega
theorem ev_nth_lt {fs : List Value} {b : Nat} {v : Value} (h : ev_nth fs b = some v) : b < fs.length := by
  rw [ev_nth_eq] at h
  exact (List.getElem?_eq_some_iff.mp h).1
section KINDS
variable {tl : List FieldType} {oc : Nat → Nat} {df : Nat → List Value} {nL : Nat} {ret : Option FieldType} {pc a b tg : Nat} {kk : Int}
def kl_i (g : ev_LQ → Value) (p : Nat) (q : ev_LQ) (st : List Value) : Option (Nat × ev_LQ × List Value) := match g q with
  | .int x => some (p, q, .int x :: st)
  | .float x => some (p, q, .float x :: st)
  | _ => none
def kl_l (g : ev_LQ → Value) (p : Nat) (q : ev_LQ) (st : List Value) : Option (Nat × ev_LQ × List Value) := match g q with
  | .long x => some (p, q, .long x :: st)
  | _ => none
def kl_a (g : ev_LQ → Value) (p : Nat) (q : ev_LQ) (st : List Value) : Option (Nat × ev_LQ × List Value) := match g q with
  | .ref x => some (p, q, .ref x :: st)
  | .null => some (p, q, .null :: st)
  | .retAddr x => some (p, q, .retAddr x :: st)
  | _ => none
def kl_si (s : ev_LQ → Value → ev_LQ) (p : Nat) (q : ev_LQ) (st : List Value) : Option (Nat × ev_LQ × List Value) := match st with
  | .int x :: r => some (p, s q (.int x), r)
  | .float x :: r => some (p, s q (.float x), r)
  | _ => none
def kl_sl (s : ev_LQ → Value → ev_LQ) (p : Nat) (q : ev_LQ) (st : List Value) : Option (Nat × ev_LQ × List Value) := match st with
  | .long x :: r => some (p, s q (.long x), r)
  | _ => none
def kl_sa (s : ev_LQ → Value → ev_LQ) (p : Nat) (q : ev_LQ) (st : List Value) : Option (Nat × ev_LQ × List Value) := match st with
  | .ref x :: r => some (p, s q (.ref x), r)
  | .null :: r => some (p, s q .null, r)
  | .retAddr x :: r => some (p, s q (.retAddr x), r)
  | _ => none
def kl_inc (g : ev_LQ → Value) (s : ev_LQ → Value → ev_LQ) (d : Int32) (p : Nat) (q : ev_LQ) (st : List Value) : Option (Nat × ev_LQ × List Value) := match g q with
  | .int x => some (p, s q (.int (q_add x d)), st)
  | _ => none
theorem q_ld {g : ev_LQ → Value} {i : Nat} {q : ev_LQ} {lv : ev_L} {v : Value} (hg : ∀ q, g q = q_g q i) (hR : q_R lv q) (h : g q = v) (hn : v ≠ q_no) : ev_lk lv i = some v := hR i v ((hg q).symm.trans h) hn
theorem ok_iload {g : ev_LQ → Value} {i : Nat} (hg : ∀ q, g q = q_g q i) : ev_ok tl oc df nL ret pc (.iload i, 2, a, b, tg, kk) (.l (kl_i g (pc + 2))) := by
  intro q lv st x hR h
  unfold kl_i at h
  split at h
  · rename_i y hy; cases h
    refine ⟨lv, ?_, hR⟩
    show ev_if (Nat.beq 2 2) (ev_ldi lv i pc 2 st) = _
    unfold ev_ldi
    rw [q_ld hg hR hy (fun h => by cases h)]
    rfl
  · rename_i y hy; cases h
    refine ⟨lv, ?_, hR⟩
    show ev_if (Nat.beq 2 2) (ev_ldi lv i pc 2 st) = _
    unfold ev_ldi
    rw [q_ld hg hR hy (fun h => by cases h)]
    rfl
  · cases h
theorem ok_iload_n {g : ev_LQ → Value} {i : Fin 4} (hg : ∀ q, g q = q_g q i) : ev_ok tl oc df nL ret pc (.iload_n i, 1, a, b, tg, kk) (.l (kl_i g (pc + 1))) := by
  intro q lv st x hR h
  unfold kl_i at h
  split at h
  · rename_i y hy; cases h
    refine ⟨lv, ?_, hR⟩
    show ev_if (Nat.beq 1 1) (ev_ldi lv i pc 1 st) = _
    unfold ev_ldi
    rw [q_ld hg hR hy (fun h => by cases h)]
    rfl
  · rename_i y hy; cases h
    refine ⟨lv, ?_, hR⟩
    show ev_if (Nat.beq 1 1) (ev_ldi lv i pc 1 st) = _
    unfold ev_ldi
    rw [q_ld hg hR hy (fun h => by cases h)]
    rfl
  · cases h
theorem ok_lload {g : ev_LQ → Value} {i : Nat} (hg : ∀ q, g q = q_g q i) : ev_ok tl oc df nL ret pc (.lload i, 2, a, b, tg, kk) (.l (kl_l g (pc + 2))) := by
  intro q lv st x hR h
  unfold kl_l at h
  split at h
  · rename_i y hy; cases h
    refine ⟨lv, ?_, hR⟩
    show ev_if (Nat.beq 2 2) (ev_ldl lv i pc 2 st) = _
    unfold ev_ldl
    rw [q_ld hg hR hy (fun h => by cases h)]
    rfl
  · cases h
theorem ok_lload_n {g : ev_LQ → Value} {i : Fin 4} (hg : ∀ q, g q = q_g q i) : ev_ok tl oc df nL ret pc (.lload_n i, 1, a, b, tg, kk) (.l (kl_l g (pc + 1))) := by
  intro q lv st x hR h
  unfold kl_l at h
  split at h
  · rename_i y hy; cases h
    refine ⟨lv, ?_, hR⟩
    show ev_if (Nat.beq 1 1) (ev_ldl lv i pc 1 st) = _
    unfold ev_ldl
    rw [q_ld hg hR hy (fun h => by cases h)]
    rfl
  · cases h
theorem ok_aload {g : ev_LQ → Value} {i : Nat} (hg : ∀ q, g q = q_g q i) : ev_ok tl oc df nL ret pc (.aload i, 2, a, b, tg, kk) (.l (kl_a g (pc + 2))) := by
  intro q lv st x hR h
  unfold kl_a at h
  split at h
  · rename_i y hy; cases h
    refine ⟨lv, ?_, hR⟩
    show ev_if (Nat.beq 2 2) (ev_lda lv i pc 2 st) = _
    unfold ev_lda
    rw [q_ld hg hR hy (fun h => by cases h)]
    rfl
  · rename_i hy; cases h
    refine ⟨lv, ?_, hR⟩
    show ev_if (Nat.beq 2 2) (ev_lda lv i pc 2 st) = _
    unfold ev_lda
    rw [q_ld hg hR hy (fun h => by cases h)]
    rfl
  · rename_i y hy; cases h
    refine ⟨lv, ?_, hR⟩
    show ev_if (Nat.beq 2 2) (ev_lda lv i pc 2 st) = _
    unfold ev_lda
    rw [q_ld hg hR hy (fun h => by cases h)]
    rfl
  · cases h
theorem ok_aload_n {g : ev_LQ → Value} {i : Fin 4} (hg : ∀ q, g q = q_g q i) : ev_ok tl oc df nL ret pc (.aload_n i, 1, a, b, tg, kk) (.l (kl_a g (pc + 1))) := by
  intro q lv st x hR h
  unfold kl_a at h
  split at h
  · rename_i y hy; cases h
    refine ⟨lv, ?_, hR⟩
    show ev_if (Nat.beq 1 1) (ev_lda lv i pc 1 st) = _
    unfold ev_lda
    rw [q_ld hg hR hy (fun h => by cases h)]
    rfl
  · rename_i hy; cases h
    refine ⟨lv, ?_, hR⟩
    show ev_if (Nat.beq 1 1) (ev_lda lv i pc 1 st) = _
    unfold ev_lda
    rw [q_ld hg hR hy (fun h => by cases h)]
    rfl
  · rename_i y hy; cases h
    refine ⟨lv, ?_, hR⟩
    show ev_if (Nat.beq 1 1) (ev_lda lv i pc 1 st) = _
    unfold ev_lda
    rw [q_ld hg hR hy (fun h => by cases h)]
    rfl
  · cases h
theorem ok_istore {s : ev_LQ → Value → ev_LQ} {i : Nat} (hs : ∀ q v, s q v = q_s1 q i v) (hn : Nat.ble ((i : Nat) + 1) nL = true) (hi : (i : Nat) + 0 < 32) : ev_ok tl oc df nL ret pc (.istore i, 2, a, b, tg, kk) (.l (kl_si s (pc + 2))) := by
  intro q lv st x hR h
  unfold kl_si at h
  split at h
  · rename_i y r; cases h
    refine ⟨ev_st1 lv i (.int y), ?_, ?_⟩
    · show ev_if (Nat.beq 2 2) (ev_if (Nat.ble ((i : Nat) + 1) nL) (some (pc + 2, ev_st1 lv i (.int y), r))) = _
      rw [hn]; rfl
    · show q_R _ (s q (.int y))
      rw [hs]; exact hR.s1 hi _
  · rename_i y r; cases h
    refine ⟨ev_st1 lv i (.float y), ?_, ?_⟩
    · show ev_if (Nat.beq 2 2) (ev_if (Nat.ble ((i : Nat) + 1) nL) (some (pc + 2, ev_st1 lv i (.float y), r))) = _
      rw [hn]; rfl
    · show q_R _ (s q (.float y))
      rw [hs]; exact hR.s1 hi _
  · cases h
theorem ok_istore_n {s : ev_LQ → Value → ev_LQ} {i : Fin 4} (hs : ∀ q v, s q v = q_s1 q i v) (hn : Nat.ble ((i : Nat) + 1) nL = true) (hi : (i : Nat) + 0 < 32) : ev_ok tl oc df nL ret pc (.istore_n i, 1, a, b, tg, kk) (.l (kl_si s (pc + 1))) := by
  intro q lv st x hR h
  unfold kl_si at h
  split at h
  · rename_i y r; cases h
    refine ⟨ev_st1 lv i (.int y), ?_, ?_⟩
    · show ev_if (Nat.beq 1 1) (ev_if (Nat.ble ((i : Nat) + 1) nL) (some (pc + 1, ev_st1 lv i (.int y), r))) = _
      rw [hn]; rfl
    · show q_R _ (s q (.int y))
      rw [hs]; exact hR.s1 hi _
  · rename_i y r; cases h
    refine ⟨ev_st1 lv i (.float y), ?_, ?_⟩
    · show ev_if (Nat.beq 1 1) (ev_if (Nat.ble ((i : Nat) + 1) nL) (some (pc + 1, ev_st1 lv i (.float y), r))) = _
      rw [hn]; rfl
    · show q_R _ (s q (.float y))
      rw [hs]; exact hR.s1 hi _
  · cases h
theorem ok_lstore {s : ev_LQ → Value → ev_LQ} {i : Nat} (hs : ∀ q v, s q v = q_s2 q i v) (hn : Nat.ble ((i : Nat) + 2) nL = true) (hi : (i : Nat) + 1 < 32) : ev_ok tl oc df nL ret pc (.lstore i, 2, a, b, tg, kk) (.l (kl_sl s (pc + 2))) := by
  intro q lv st x hR h
  unfold kl_sl at h
  split at h
  · rename_i y r; cases h
    refine ⟨ev_st2 lv i (.long y), ?_, ?_⟩
    · show ev_if (Nat.beq 2 2) (ev_if (Nat.ble ((i : Nat) + 2) nL) (some (pc + 2, ev_st2 lv i (.long y), r))) = _
      rw [hn]; rfl
    · show q_R _ (s q (.long y))
      rw [hs]; exact hR.s2 hi _
  · cases h
theorem ok_lstore_n {s : ev_LQ → Value → ev_LQ} {i : Fin 4} (hs : ∀ q v, s q v = q_s2 q i v) (hn : Nat.ble ((i : Nat) + 2) nL = true) (hi : (i : Nat) + 1 < 32) : ev_ok tl oc df nL ret pc (.lstore_n i, 1, a, b, tg, kk) (.l (kl_sl s (pc + 1))) := by
  intro q lv st x hR h
  unfold kl_sl at h
  split at h
  · rename_i y r; cases h
    refine ⟨ev_st2 lv i (.long y), ?_, ?_⟩
    · show ev_if (Nat.beq 1 1) (ev_if (Nat.ble ((i : Nat) + 2) nL) (some (pc + 1, ev_st2 lv i (.long y), r))) = _
      rw [hn]; rfl
    · show q_R _ (s q (.long y))
      rw [hs]; exact hR.s2 hi _
  · cases h
theorem ok_astore {s : ev_LQ → Value → ev_LQ} {i : Nat} (hs : ∀ q v, s q v = q_s1 q i v) (hn : Nat.ble ((i : Nat) + 1) nL = true) (hi : (i : Nat) + 0 < 32) : ev_ok tl oc df nL ret pc (.astore i, 2, a, b, tg, kk) (.l (kl_sa s (pc + 2))) := by
  intro q lv st x hR h
  unfold kl_sa at h
  split at h
  · rename_i y r; cases h
    refine ⟨ev_st1 lv i (.ref y), ?_, ?_⟩
    · show ev_if (Nat.beq 2 2) (ev_if (Nat.ble ((i : Nat) + 1) nL) (some (pc + 2, ev_st1 lv i (.ref y), r))) = _
      rw [hn]; rfl
    · show q_R _ (s q (.ref y))
      rw [hs]; exact hR.s1 hi _
  · rename_i r; cases h
    refine ⟨ev_st1 lv i (.null), ?_, ?_⟩
    · show ev_if (Nat.beq 2 2) (ev_if (Nat.ble ((i : Nat) + 1) nL) (some (pc + 2, ev_st1 lv i (.null), r))) = _
      rw [hn]; rfl
    · show q_R _ (s q (.null))
      rw [hs]; exact hR.s1 hi _
  · rename_i y r; cases h
    refine ⟨ev_st1 lv i (.retAddr y), ?_, ?_⟩
    · show ev_if (Nat.beq 2 2) (ev_if (Nat.ble ((i : Nat) + 1) nL) (some (pc + 2, ev_st1 lv i (.retAddr y), r))) = _
      rw [hn]; rfl
    · show q_R _ (s q (.retAddr y))
      rw [hs]; exact hR.s1 hi _
  · cases h
theorem ok_astore_n {s : ev_LQ → Value → ev_LQ} {i : Fin 4} (hs : ∀ q v, s q v = q_s1 q i v) (hn : Nat.ble ((i : Nat) + 1) nL = true) (hi : (i : Nat) + 0 < 32) : ev_ok tl oc df nL ret pc (.astore_n i, 1, a, b, tg, kk) (.l (kl_sa s (pc + 1))) := by
  intro q lv st x hR h
  unfold kl_sa at h
  split at h
  · rename_i y r; cases h
    refine ⟨ev_st1 lv i (.ref y), ?_, ?_⟩
    · show ev_if (Nat.beq 1 1) (ev_if (Nat.ble ((i : Nat) + 1) nL) (some (pc + 1, ev_st1 lv i (.ref y), r))) = _
      rw [hn]; rfl
    · show q_R _ (s q (.ref y))
      rw [hs]; exact hR.s1 hi _
  · rename_i r; cases h
    refine ⟨ev_st1 lv i (.null), ?_, ?_⟩
    · show ev_if (Nat.beq 1 1) (ev_if (Nat.ble ((i : Nat) + 1) nL) (some (pc + 1, ev_st1 lv i (.null), r))) = _
      rw [hn]; rfl
    · show q_R _ (s q (.null))
      rw [hs]; exact hR.s1 hi _
  · rename_i y r; cases h
    refine ⟨ev_st1 lv i (.retAddr y), ?_, ?_⟩
    · show ev_if (Nat.beq 1 1) (ev_if (Nat.ble ((i : Nat) + 1) nL) (some (pc + 1, ev_st1 lv i (.retAddr y), r))) = _
      rw [hn]; rfl
    · show q_R _ (s q (.retAddr y))
      rw [hs]; exact hR.s1 hi _
  · cases h
theorem ok_iinc {g : ev_LQ → Value} {s : ev_LQ → Value → ev_LQ} {i : Nat} {n : Int} {d : Int32} (hg : ∀ q, g q = q_g q i) (hs : ∀ q v, s q v = q_s1 q i v) (hd : d = Int32.ofInt n) (hn : Nat.ble (i + 1) nL = true) (hi : i < 32) : ev_ok tl oc df nL ret pc (.iinc i n, 3, a, b, tg, kk) (.l (kl_inc g s d (pc + 3))) := by
  intro q lv st x hR h
  unfold kl_inc at h
  split at h
  · rename_i y hy; cases h
    refine ⟨ev_st1 lv i (.int (y + Int32.ofInt n)), ?_, ?_⟩
    · show (match ev_lk lv i with
        | some (.int x) => ev_if (Nat.beq 3 3 && Nat.ble (i + 1) nL) (some (pc + 3, ev_st1 lv i (.int (x + Int32.ofInt n)), st))
        | _ => none) = _
      rw [q_ld hg hR hy (fun h => by cases h)]
      show ev_if (Nat.beq 3 3 && Nat.ble (i + 1) nL) _ = _
      rw [hn]; rfl
    · show q_R _ (s q (.int (q_add y d)))
      rw [hs, hd, q_add_eq]; exact hR.s1 hi _
  · cases h
def kc_p (v : Value) (p : Nat) (st : List Value) : Option (Nat × List Value) := some (p, v :: st)
theorem ok_p {i : Instr} {len p : Nat} {v : Value} (h : ∀ st, ev_xc i len pc st = some (p, v :: st)) : ev_ok tl oc df nL ret pc (i, len, a, b, tg, kk) (.c (kc_p v p)) := fun st x hx => (h st).trans hx
theorem ok_c {i : Instr} {len : Nat} : ev_ok tl oc df nL ret pc (i, len, a, b, tg, kk) (.c (ev_xc i len pc)) := fun _ _ h => h
theorem ok_h {i : Instr} {len : Nat} : ev_ok tl oc df nL ret pc (i, len, a, b, tg, kk) (.h (ev_xh tl oc df i len a b tg kk pc)) := fun _ _ _ h => h
theorem ok_m {i : Instr} {len : Nat} : ev_ok tl oc df nL ret pc (i, len, a, b, tg, kk) (.m (ev_xm i len tg)) := fun _ _ h => h
theorem ok_r {i : Instr} {len : Nat} {f : List Value → Option (Option Value)} (h : ∀ st x, f st = some x → ev_rt ret i len st = some x) : ev_ok tl oc df nL ret pc (i, len, a, b, tg, kk) (.r f) := h
theorem ok_v {i : Instr} {len k : Nat} {f : ev_T → List Value → Option (List Value × List Value)} (h : ∀ t st, ev_cl i len b tg kk t st = f t st) : ev_ok tl oc df nL ret pc (i, len, k, b, tg, kk) (.v k f) := ⟨rfl, fun t st x hx => (h t st).trans hx⟩
def kc_dup (p : Nat) (st : List Value) : Option (Nat × List Value) := match st with
  | v :: r => ev_if (Nat.beq v.category 1) (some (p, v :: v :: r))
  | _ => none
theorem ok_dup : ev_ok tl oc df nL ret pc (.dup, 1, a, b, tg, kk) (.c (kc_dup (pc + 1))) := by
  intro st x h
  unfold kc_dup at h
  split at h
  · exact h
  · cases h
def kc_pop (p : Nat) (st : List Value) : Option (Nat × List Value) := match st with
  | v :: r => ev_if (Nat.beq v.category 1) (some (p, r))
  | _ => none
theorem ok_pop : ev_ok tl oc df nL ret pc (.pop, 1, a, b, tg, kk) (.c (kc_pop (pc + 1))) := by
  intro st x h
  unfold kc_pop at h
  split at h
  · exact h
  · cases h
def kc_goto (t : Nat) (st : List Value) : Option (Nat × List Value) := some (t, st)
theorem ok_goto {off : Int} {t : Nat} (ht : ev_tg pc off = some t) : ev_ok tl oc df nL ret pc (.goto off, 3, a, b, tg, kk) (.c (kc_goto t)) := by
  intro st x h
  show ev_if (Nat.beq 3 3) ((ev_tg pc off).map fun t => (t, st)) = _
  rw [ht]; exact h
def kc_nul (t p : Nat) (st : List Value) : Option (Nat × List Value) := match st with
  | .ref _ :: r => some (p, r)
  | .null :: r => some (t, r)
  | _ => none
theorem ok_ifnull {off : Int} {t : Nat} (ht : ev_tg pc off = some t) : ev_ok tl oc df nL ret pc (.ifnull off, 3, a, b, tg, kk) (.c (kc_nul t (pc + 3))) := by
  intro st x h
  unfold kc_nul at h
  split at h
  · exact h
  · rename_i r
    show ev_if (Nat.beq 3 3) ((ev_tg pc off).map fun t => (t, r)) = _
    rw [ht]; exact h
  · cases h
theorem ok_ifnonnull {off : Int} {t : Nat} (ht : ev_tg pc off = some t) : ev_ok tl oc df nL ret pc (.ifnonnull off, 3, a, b, tg, kk) (.c (kc_nul (pc + 3) t)) := by
  intro st x h
  unfold kc_nul at h
  split at h
  · rename_i r
    show ev_if (Nat.beq 3 3) ((ev_tg pc off).map fun t => (t, r)) = _
    rw [ht]; exact h
  · exact h
  · cases h
def kc_ac (f : Bool → Bool) (t p : Nat) (st : List Value) : Option (Nat × List Value) := match st with
  | .ref y :: .ref x :: r => some (bif f (Nat.beq x y) then t else p, r)
  | .null :: .ref _ :: r => some (bif f false then t else p, r)
  | .ref _ :: .null :: r => some (bif f false then t else p, r)
  | .null :: .null :: r => some (bif f true then t else p, r)
  | _ => none
theorem ok_ac {c : Jvm.ClassFile.ACond} {f : Bool → Bool} {off : Int} {t : Nat} (ht : ev_tg pc off = some t) (hf : ∀ x, f x = match c with | .eq => x | .ne => !x) : ev_ok tl oc df nL ret pc (.if_acmp c off, 3, a, b, tg, kk) (.c (kc_ac f t (pc + 3))) := by
  intro st x h
  unfold kc_ac at h
  split at h
  all_goals first
    | (rename_i r; show ev_if (Nat.beq 3 3) (ev_br _ pc 3 off r) = _; unfold ev_br; rw [ht, ← h]; rw [hf]; cases c <;> rfl)
    | cases h
def kc_iadd (p : Nat) (st : List Value) : Option (Nat × List Value) := match st with
  | .int y :: .int x :: r => some (p, .int (q_add x y) :: r)
  | _ => none
theorem ok_iadd : ev_ok tl oc df nL ret pc (.iadd, 1, a, b, tg, kk) (.c (kc_iadd (pc + 1))) := by
  intro st x h
  unfold kc_iadd at h
  split at h
  · rw [q_add_eq] at h; exact h
  · cases h
def kc_isub (p : Nat) (st : List Value) : Option (Nat × List Value) := match st with
  | .int y :: .int x :: r => some (p, .int (q_sub x y) :: r)
  | _ => none
theorem ok_isub : ev_ok tl oc df nL ret pc (.isub, 1, a, b, tg, kk) (.c (kc_isub (pc + 1))) := by
  intro st x h
  unfold kc_isub at h
  split at h
  · rw [q_sub_eq] at h; exact h
  · cases h
def kc_iceq (t p : Nat) (st : List Value) : Option (Nat × List Value) := match st with
  | .int y :: .int x :: r => some (bif q_eq x y then t else p, r)
  | _ => none
theorem ok_iceq {off : Int} {t : Nat} (ht : ev_tg pc off = some t) : ev_ok tl oc df nL ret pc (.if_icmp .eq off, 3, a, b, tg, kk) (.c (kc_iceq t (pc + 3))) := by
  intro st x h
  unfold kc_iceq at h
  split at h
  · rename_i y z r
    show ev_if (Nat.beq 3 3) (ev_br (decide (z = y)) pc 3 off r) = _
    unfold ev_br
    rw [ht, ← h, q_eq_eq]; rfl
  · cases h
def kc_ifeq (t p : Nat) (st : List Value) : Option (Nat × List Value) := match st with
  | .int x :: r => some (bif q_eq x (q_i 0) then t else p, r)
  | _ => none
theorem ok_ifeq {off : Int} {t : Nat} (ht : ev_tg pc off = some t) : ev_ok tl oc df nL ret pc (.ifCond .eq off, 3, a, b, tg, kk) (.c (kc_ifeq t (pc + 3))) := by
  intro st x h
  unfold kc_ifeq at h
  split at h
  · rename_i z r
    show ev_if (Nat.beq 3 3) (ev_br (decide (z = 0)) pc 3 off r) = _
    unfold ev_br
    rw [ht, ← h, q_eq_eq]; rfl
  · cases h
def kc_icne (t p : Nat) (st : List Value) : Option (Nat × List Value) := match st with
  | .int y :: .int x :: r => some (bif !q_eq x y then t else p, r)
  | _ => none
theorem ok_icne {off : Int} {t : Nat} (ht : ev_tg pc off = some t) : ev_ok tl oc df nL ret pc (.if_icmp .ne off, 3, a, b, tg, kk) (.c (kc_icne t (pc + 3))) := by
  intro st x h
  unfold kc_icne at h
  split at h
  · rename_i y z r
    show ev_if (Nat.beq 3 3) (ev_br (!decide (z = y)) pc 3 off r) = _
    unfold ev_br
    rw [ht, ← h, q_eq_eq]; rfl
  · cases h
def kc_ifne (t p : Nat) (st : List Value) : Option (Nat × List Value) := match st with
  | .int x :: r => some (bif !q_eq x (q_i 0) then t else p, r)
  | _ => none
theorem ok_ifne {off : Int} {t : Nat} (ht : ev_tg pc off = some t) : ev_ok tl oc df nL ret pc (.ifCond .ne off, 3, a, b, tg, kk) (.c (kc_ifne t (pc + 3))) := by
  intro st x h
  unfold kc_ifne at h
  split at h
  · rename_i z r
    show ev_if (Nat.beq 3 3) (ev_br (!decide (z = 0)) pc 3 off r) = _
    unfold ev_br
    rw [ht, ← h, q_eq_eq]; rfl
  · cases h
def kc_iclt (t p : Nat) (st : List Value) : Option (Nat × List Value) := match st with
  | .int y :: .int x :: r => some (bif !q_le y x then t else p, r)
  | _ => none
theorem ok_iclt {off : Int} {t : Nat} (ht : ev_tg pc off = some t) : ev_ok tl oc df nL ret pc (.if_icmp .lt off, 3, a, b, tg, kk) (.c (kc_iclt t (pc + 3))) := by
  intro st x h
  unfold kc_iclt at h
  split at h
  · rename_i y z r
    show ev_if (Nat.beq 3 3) (ev_br (decide (z < y)) pc 3 off r) = _
    unfold ev_br
    rw [ht, ← h, q_lt_eq]; rfl
  · cases h
def kc_iflt (t p : Nat) (st : List Value) : Option (Nat × List Value) := match st with
  | .int x :: r => some (bif !q_le (q_i 0) x then t else p, r)
  | _ => none
theorem ok_iflt {off : Int} {t : Nat} (ht : ev_tg pc off = some t) : ev_ok tl oc df nL ret pc (.ifCond .lt off, 3, a, b, tg, kk) (.c (kc_iflt t (pc + 3))) := by
  intro st x h
  unfold kc_iflt at h
  split at h
  · rename_i z r
    show ev_if (Nat.beq 3 3) (ev_br (decide (z < 0)) pc 3 off r) = _
    unfold ev_br
    rw [ht, ← h, q_lt_eq]; rfl
  · cases h
def kc_icge (t p : Nat) (st : List Value) : Option (Nat × List Value) := match st with
  | .int y :: .int x :: r => some (bif q_le y x then t else p, r)
  | _ => none
theorem ok_icge {off : Int} {t : Nat} (ht : ev_tg pc off = some t) : ev_ok tl oc df nL ret pc (.if_icmp .ge off, 3, a, b, tg, kk) (.c (kc_icge t (pc + 3))) := by
  intro st x h
  unfold kc_icge at h
  split at h
  · rename_i y z r
    show ev_if (Nat.beq 3 3) (ev_br (!decide (z < y)) pc 3 off r) = _
    unfold ev_br
    rw [ht, ← h, q_ge_eq]; rfl
  · cases h
def kc_ifge (t p : Nat) (st : List Value) : Option (Nat × List Value) := match st with
  | .int x :: r => some (bif q_le (q_i 0) x then t else p, r)
  | _ => none
theorem ok_ifge {off : Int} {t : Nat} (ht : ev_tg pc off = some t) : ev_ok tl oc df nL ret pc (.ifCond .ge off, 3, a, b, tg, kk) (.c (kc_ifge t (pc + 3))) := by
  intro st x h
  unfold kc_ifge at h
  split at h
  · rename_i z r
    show ev_if (Nat.beq 3 3) (ev_br (!decide (z < 0)) pc 3 off r) = _
    unfold ev_br
    rw [ht, ← h, q_ge_eq]; rfl
  · cases h
def kc_icgt (t p : Nat) (st : List Value) : Option (Nat × List Value) := match st with
  | .int y :: .int x :: r => some (bif !q_le x y then t else p, r)
  | _ => none
theorem ok_icgt {off : Int} {t : Nat} (ht : ev_tg pc off = some t) : ev_ok tl oc df nL ret pc (.if_icmp .gt off, 3, a, b, tg, kk) (.c (kc_icgt t (pc + 3))) := by
  intro st x h
  unfold kc_icgt at h
  split at h
  · rename_i y z r
    show ev_if (Nat.beq 3 3) (ev_br (!decide (z ≤ y)) pc 3 off r) = _
    unfold ev_br
    rw [ht, ← h, q_le_eq]; rfl
  · cases h
def kc_ifgt (t p : Nat) (st : List Value) : Option (Nat × List Value) := match st with
  | .int x :: r => some (bif !q_le x (q_i 0) then t else p, r)
  | _ => none
theorem ok_ifgt {off : Int} {t : Nat} (ht : ev_tg pc off = some t) : ev_ok tl oc df nL ret pc (.ifCond .gt off, 3, a, b, tg, kk) (.c (kc_ifgt t (pc + 3))) := by
  intro st x h
  unfold kc_ifgt at h
  split at h
  · rename_i z r
    show ev_if (Nat.beq 3 3) (ev_br (!decide (z ≤ 0)) pc 3 off r) = _
    unfold ev_br
    rw [ht, ← h, q_le_eq]; rfl
  · cases h
def kc_icle (t p : Nat) (st : List Value) : Option (Nat × List Value) := match st with
  | .int y :: .int x :: r => some (bif q_le x y then t else p, r)
  | _ => none
theorem ok_icle {off : Int} {t : Nat} (ht : ev_tg pc off = some t) : ev_ok tl oc df nL ret pc (.if_icmp .le off, 3, a, b, tg, kk) (.c (kc_icle t (pc + 3))) := by
  intro st x h
  unfold kc_icle at h
  split at h
  · rename_i y z r
    show ev_if (Nat.beq 3 3) (ev_br (decide (z ≤ y)) pc 3 off r) = _
    unfold ev_br
    rw [ht, ← h, q_le_eq]; rfl
  · cases h
def kc_ifle (t p : Nat) (st : List Value) : Option (Nat × List Value) := match st with
  | .int x :: r => some (bif q_le x (q_i 0) then t else p, r)
  | _ => none
theorem ok_ifle {off : Int} {t : Nat} (ht : ev_tg pc off = some t) : ev_ok tl oc df nL ret pc (.ifCond .le off, 3, a, b, tg, kk) (.c (kc_ifle t (pc + 3))) := by
  intro st x h
  unfold kc_ifle at h
  split at h
  · rename_i z r
    show ev_if (Nat.beq 3 3) (ev_br (decide (z ≤ 0)) pc 3 off r) = _
    unfold ev_br
    rw [ht, ← h, q_le_eq]; rfl
  · cases h
def kh_gf (a b p : Nat) (st : List Value) (σ : ev_S) : Option (Nat × List Value × ev_S) := match st with
  | .ref q :: r => match ev_g σ.2.1 q with
    | some (.inr (ci, fs)) => match ev_nth fs b with
      | some v => ev_if (Nat.beq ci a) (some (p, v :: r, σ))
      | none => none
    | _ => none
  | _ => none
theorem ok_gf {ix : Nat} : ev_ok tl oc df nL ret pc (.getfield ix, 3, a, b, tg, kk) (.h (kh_gf a b (pc + 3))) := by
  intro st σ x h
  unfold kh_gf at h
  split at h <;> try cases h
  split at h <;> try cases h
  rename_i ci fs hq
  split at h <;> try cases h
  rename_i v hv
  simp only [ev_xh, hq, hv]
  exact h
def kh_pf (a b tg p : Nat) (st : List Value) (σ : ev_S) : Option (Nat × List Value × ev_S) := match st with
  | v :: .ref q :: r => match ev_g σ.2.1 q with
    | some (.inr (ci, fs)) => match ev_nth fs b with
      | some _ => ev_if (Nat.beq ci a && ev_fit tg v) (some (p, r, (σ.1, ev_p σ.2.1 q (.inr (ci, fs.set b v)), σ.2.2)))
      | none => none
    | _ => none
  | _ => none
theorem ok_pf {ix : Nat} : ev_ok tl oc df nL ret pc (.putfield ix, 3, a, b, tg, kk) (.h (kh_pf a b tg (pc + 3))) := by
  intro st σ x h
  unfold kh_pf at h
  split at h <;> try cases h
  rename_i v q r
  split at h <;> try cases h
  rename_i ci fs hq
  split at h <;> try cases h
  rename_i w hw
  have h1 := (ev_if_ok h).1
  replace h := (ev_if_ok h).2
  rw [Bool.and_eq_true] at h1
  simp only [ev_xh, hq]
  rw [h1.1, h1.2, Nat.ble_eq.mpr (show b + 1 ≤ fs.length from ev_nth_lt hw), Nat.ble_eq.mpr (show q + 1 ≤ 256 from ev_g_lt hq)]
  exact h
def kh_ial (p : Nat) (st : List Value) (σ : ev_S) : Option (Nat × List Value × ev_S) := match st with
  | .int x :: .ref q :: r => match ev_g σ.2.1 q with
    | some (.inl (j, n, .inl f)) => ev_if (Nat.beq j 0 && q_ix x n) (some (p, .int (f (q_n x)) :: r, σ))
    | some (.inl (j, n, .inr (.inl f))) => ev_if (Nat.beq j 0 && q_ix x n) (some (p, ev_un (f (q_n x)) :: r, σ))
    | _ => none
  | _ => none
theorem ok_ial : ev_ok tl oc df nL ret pc (.iaload, 1, a, b, tg, kk) (.h (kh_ial (pc + 1))) := by
  intro st σ x h
  unfold kh_ial at h
  split at h <;> try cases h
  split at h <;> try cases h
  all_goals
    rename_i j n f hq
    have h1 := (ev_if_ok h).1
    replace h := (ev_if_ok h).2
    rw [Bool.and_eq_true] at h1
    obtain ⟨h2, h3⟩ := q_ix_ok h1.2
    simp only [ev_xh, hq]
    rw [h1.1, h2, h3]
    exact h
def kh_aal (tl : List FieldType) (p : Nat) (st : List Value) (σ : ev_S) : Option (Nat × List Value × ev_S) := match st with
  | .int x :: .ref q :: r => match ev_g σ.2.1 q with
    | some (.inl (j, n, .inr (.inr (.inr (.inr f))))) => match ev_nth tl j with
      | some (.object _) => ev_if (q_ix x n) (some (p, va_rf (f (q_n x)) :: r, σ))
      | _ => none
    | _ => none
  | _ => none
theorem ok_aal : ev_ok tl oc df nL ret pc (.aaload, 1, a, b, tg, kk) (.h (kh_aal tl (pc + 1))) := by
  intro st σ x h
  unfold kh_aal at h
  split at h <;> try cases h
  split at h <;> try cases h
  rename_i j n f hq
  split at h <;> try cases h
  rename_i C hC
  have h1 := (ev_if_ok h).1
  replace h := (ev_if_ok h).2
  obtain ⟨h2, h3⟩ := q_ix_ok h1
  simp only [ev_xh, hq, hC]
  rw [h2, h3]
  exact h
def kh_len (nt p : Nat) (st : List Value) (σ : ev_S) : Option (Nat × List Value × ev_S) := match st with
  | .ref q :: r => match ev_g σ.2.1 q with
    | some (.inl (j, n, _)) => ev_if (Nat.ble (Nat.succ j) nt) (some (p, .int (q_i n) :: r, σ))
    | _ => none
  | _ => none
theorem ok_len {nt : Nat} (hn : tl.length = nt) : ev_ok tl oc df nL ret pc (.arraylength, 1, a, b, tg, kk) (.h (kh_len nt (pc + 1))) := by
  intro st σ x h
  unfold kh_len at h
  split at h <;> try cases h
  split at h <;> try cases h
  rename_i j n f hq
  simp only [ev_xh, hq]
  rw [hn]
  exact h
def kh_new (a b p : Nat) (d : List Value) (st : List Value) (σ : ev_S) : Option (Nat × List Value × ev_S) := ev_if (Nat.ble (Nat.succ σ.1) 256) (some (p, .ref σ.1 :: st, (σ.1 + 1, ev_p σ.2.1 σ.1 (.inr (a, d)), σ.2.2.1 + 1, σ.2.2.2 + b)))
theorem ok_new {ix : Nat} {d : List Value} (hd : df a = d) : ev_ok tl oc df nL ret pc (.new ix, 3, a, b, tg, kk) (.h (kh_new a b (pc + 3) d)) := by
  intro st σ x h
  show ev_if (Nat.beq 3 3 && Nat.ble (σ.1 + 1) 256) (some (pc + 3, .ref σ.1 :: st, (σ.1 + 1, ev_p σ.2.1 σ.1 (.inr (a, df a)), σ.2.2.1 + 1, σ.2.2.2 + b))) = _
  rw [hd]
  exact h
def kr_i (st : List Value) : Option (Option Value) := match st with
  | [.int v] => some (some (.int v))
  | [.float v] => some (some (.float v))
  | _ => none
theorem ok_ri (hr : ret = some .int) : ev_ok tl oc df nL ret pc (.ireturn, 1, a, b, tg, kk) (.r kr_i) := by
  subst hr
  intro st x h
  unfold kr_i at h
  split at h
  · exact h
  · exact h
  · cases h
def kr_z (st : List Value) : Option (Option Value) := match st with
  | [.int v] => ev_if (q_eq v (q_i 0) || q_eq v (q_i 1)) (some (some (.int v)))
  | _ => none
theorem ok_rz (hr : ret = some .boolean) : ev_ok tl oc df nL ret pc (.ireturn, 1, a, b, tg, kk) (.r kr_z) := by
  subst hr
  intro st x h
  unfold kr_z at h
  split at h
  · rw [q_eq_eq, q_eq_eq] at h; exact h
  · cases h
def kr_a (st : List Value) : Option (Option Value) := match st with
  | [.ref v] => some (some (.ref v))
  | [.null] => some (some .null)
  | [.retAddr v] => some (some (.retAddr v))
  | _ => none
theorem ok_ra {C : String} (hr : ret = some (.object C)) : ev_ok tl oc df nL ret pc (.areturn, 1, a, b, tg, kk) (.r kr_a) := by
  subst hr
  intro st x h
  unfold kr_a at h
  split at h
  · exact h
  · exact h
  · exact h
  · cases h
def kr_n (st : List Value) : Option (Option Value) := match st with
  | [] => some none
  | _ => none
theorem ok_rn (hr : ret = none) : ev_ok tl oc df nL ret pc (.return_, 1, a, b, tg, kk) (.r kr_n) := by
  subst hr
  intro st x h
  unfold kr_n at h
  split at h
  · exact h
  · cases h
def kv_s (b : Nat) (st : List Value) : Option (List Value × List Value) := match ev_tk b [] st with
  | some (as, rest) => ev_if (Nat.ble (ev_cat rest) 8) (some (as, rest))
  | none => none
def kv_v (b k : Nat) (t : ev_T) (st : List Value) : Option (List Value × List Value) := match ev_tk b [] st with
  | some (as, .ref q :: rest) => match ev_g t q with
    | some (.inr (ci, _)) => ev_if (Nat.ble (ev_cat rest) 8 && Nat.beq ci k) (some (.ref q :: as, rest))
    | _ => none
  | _ => none
def kv_i (b : Nat) (st : List Value) : Option (List Value × List Value) := match ev_tk b [] st with
  | some (as, .ref q :: rest) => ev_if (Nat.ble (ev_cat rest) 8) (some (.ref q :: as, rest))
  | _ => none
theorem al_nil {α : Type} {P : α → Prop} : ∀ y ∈ ([] : List α), P y := fun _ h => by cases h
theorem al_cons {α : Type} {P : α → Prop} {x : α} {l : List α} (h : P x) (t : ∀ y ∈ l, P y) : ∀ y ∈ x :: l, P y := fun y hy => by
  rcases List.mem_cons.mp hy with e | e
  · rw [e]; exact h
  · exact t y e
end KINDS
