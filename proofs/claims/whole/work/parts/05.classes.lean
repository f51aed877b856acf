abbrev vwCl : List vw_C := [(RX0, TX0, 13), (RX1, TX1, 1), (RX2, TX2, 4), (RX3, TX3, 4), (RX4, TX4, 2), (RX5, TX5, 12), (RX6, TX6, 13), (RX7, TX7, 72)]
